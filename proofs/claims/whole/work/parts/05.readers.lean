abbrev rmX0_isKnown : Room := { frames := 0, cells := 0, slots := 0, locals := 0 }
set_option maxHeartbeats 4000000 in
set_option maxRecDepth 100000 in
theorem kX0_isKnown (l : Launch) (D : va_G) (h : Nat) (q : Nat → Nat) (cs : Nat → ClassId) (fh : Nat → Int32) (n : Nat) (fb fl fg fr : Nat → Int32) (k : Nat) (hn : n ≤ 60) (hk : k ≤ 200) (x : Int32) : Met l yX0_isKnown wsX0_isKnown rmX0_isKnown (rd_P D vwCl (tX cs) [.ref h, .int x] (wX h q cs fh n fb fl fg fr k)) (QcRead (rn_b (rn_kn x k))) 0 0 (fun _ => False) := by
  refine rd_of (cc := cX0_isKnown) (maxL := 2) (ty := .boolean) (by decide) rfl (rn_b_nar _) (Nat.le_of_ble_eq_true rfl) ?_
  intro p e s m args below meth c ls Q hx hb hml hown hts hK hP hl hret
  have hown : s.vm.findClass RX0 = some m.cls := hown
  have hin : ∀ w ∈ wsX00, w ∈ wsX0_isKnown := by decide +kernel
  have hl : lv_has ls 2 [(0, .ref h), (1, .int x)] := hl
  refine lv_iload_n hx hb dX0_isKnown_0 rfl (lv_at hl 1 rfl) ?_
  refine lv_if_lt (tgt := 16) hx hb dX0_isKnown_1 (by decide) (fun c0 => ?_) (fun c0 => ?_)
  · refine lv_iconst (v := nI 0) hx hb dX0_isKnown_16 (by decide) ?_
    exact rb_top (rn_b0 (rn_kn_f1 c0)) (hret _ _ dX0_isKnown_17)
  · refine lv_iload_n hx hb dX0_isKnown_4 rfl (lv_at hl 1 rfl) ?_
    refine lv_aload_n hx hb dX0_isKnown_5 rfl (lv_at hl 0 rfl) ?_
    refine va_get (D := D) (ci := 0) (v := .int (nI k)) (C := RX0) (T := TX0) (N := 7) hx hb hts hin hown hK hP 0 rfl rfl 6 (by decide) (hts (.fieldLink RX0 30 "ReferredNames" "known" "I") (by decide +kernel)) (fun _ h9 => h9) rfl dX0_isKnown_6 ?_
    refine lv_icmp_ge (tgt := 16) hx hb dX0_isKnown_9 (by decide) (fun c1 => ?_) (fun c1 => ?_)
    · refine lv_iconst (v := nI 0) hx hb dX0_isKnown_16 (by decide) ?_
      exact rb_top (rn_b0 (rn_kn_f2 c1)) (hret _ _ dX0_isKnown_17)
    · refine lv_iconst (v := nI 1) hx hb dX0_isKnown_12 (by decide) ?_
      refine lv_goto (tgt := 17) hx hb dX0_isKnown_13 (by decide) ?_
      exact rb_top (rn_b1 (rn_kn_tt c0 c1)) (hret _ _ dX0_isKnown_17)
abbrev rmX0_isGiven : Room := { frames := 0, cells := 0, slots := 0, locals := 0 }
set_option maxHeartbeats 4000000 in
set_option maxRecDepth 100000 in
theorem kX0_isGiven (l : Launch) (D : va_G) (h : Nat) (q : Nat → Nat) (cs : Nat → ClassId) (fh : Nat → Int32) (n : Nat) (fb fl fg fr : Nat → Int32) (k : Nat) (hn : n ≤ 60) (hk : k ≤ 200) (j : Nat) (hj : j < k) : Met l yX0_isGiven wsX0_isGiven rmX0_isGiven (rd_P D vwCl (tX cs) [.ref h, .int (nI j)] (wX h q cs fh n fb fl fg fr k)) (QcRead (rn_b (rn_gi fg j))) 0 0 (fun _ => False) := by
  refine rd_of (cc := cX0_isGiven) (maxL := 2) (ty := .boolean) (by decide) rfl (rn_b_nar _) (Nat.le_of_ble_eq_true rfl) ?_
  intro p e s m args below meth c ls Q hx hb hml hown hts hK hP hl hret
  have hown : s.vm.findClass RX0 = some m.cls := hown
  have hin : ∀ w ∈ wsX00, w ∈ wsX0_isGiven := by decide +kernel
  have hl : lv_has ls 2 [(0, .ref h), (1, .int (nI j))] := hl
  refine lv_aload_n hx hb dX0_isGiven_0 rfl (lv_at hl 0 rfl) ?_
  refine va_get (D := D) (ci := 0) (v := .ref (q 4)) (C := RX0) (T := TX0) (N := 7) hx hb hts hin hown hK hP 0 rfl rfl 4 (by decide) (hts (.fieldLink RX0 24 "ReferredNames" "givings" "[I") (by decide +kernel)) (fun _ h9 => h9) rfl dX0_isGiven_1 ?_
  refine lv_iload_n hx hb dX0_isGiven_4 rfl (lv_at hl 1 rfl) ?_
  refine rb_ild hx hb hK hP 4 3 rfl rfl (i := j) (by omega) (by decide) dX0_isGiven_5 ?_
  refine lv_if_eq (tgt := 13) hx hb dX0_isGiven_6 (by decide) (fun c0 => ?_) (fun c0 => ?_)
  · refine lv_iconst (v := nI 0) hx hb dX0_isGiven_13 (by decide) ?_
    exact rb_top (rn_b0 (decide_eq_false (fun q9 => q9 c0))) (hret _ _ dX0_isGiven_14)
  · refine lv_iconst (v := nI 1) hx hb dX0_isGiven_9 (by decide) ?_
    refine lv_goto (tgt := 14) hx hb dX0_isGiven_10 (by decide) ?_
    exact rb_top (rn_b1 (decide_eq_true c0)) (hret _ _ dX0_isGiven_14)
abbrev rmX0_isMissing : Room := { frames := 1, cells := 0, slots := 0, locals := 21 }
set_option maxHeartbeats 4000000 in
set_option maxRecDepth 100000 in
theorem kX0_isMissing (l : Launch) (D : va_G) (h : Nat) (q : Nat → Nat) (cs : Nat → ClassId) (fh : Nat → Int32) (n : Nat) (fb fl fg fr : Nat → Int32) (k : Nat) (hn : n ≤ 60) (hk : k ≤ 200) (j : Nat) (hj : j < k) : Met l yX0_isMissing wsX0_isMissing rmX0_isMissing (rd_P D vwCl (tX cs) [.ref h, .int (nI j)] (wX h q cs fh n fb fl fg fr k)) (QcRead (rn_b (rn_mi fg fr j))) 0 0 (fun _ => False) := by
  refine rd_of (cc := cX0_isMissing) (maxL := 2) (ty := .boolean) (by decide) rfl (rn_b_nar _) (Nat.le_of_ble_eq_true rfl) ?_
  intro p e s m args below meth c ls Q hx hb hml hown hts hK hP hl hret
  have hown : s.vm.findClass RX0 = some m.cls := hown
  have hin : ∀ w ∈ wsX00, w ∈ wsX0_isMissing := by decide +kernel
  have hl : lv_has ls 2 [(0, .ref h), (1, .int (nI j))] := hl
  refine lv_aload_n hx hb dX0_isMissing_0 rfl (lv_at hl 0 rfl) ?_
  refine va_get (D := D) (ci := 0) (v := .ref (q 5)) (C := RX0) (T := TX0) (N := 7) hx hb hts hin hown hK hP 0 rfl rfl 5 (by decide) (hts (.fieldLink RX0 27 "ReferredNames" "referrals" "[I") (by decide +kernel)) (fun _ h9 => h9) rfl dX0_isMissing_1 ?_
  refine lv_iload_n hx hb dX0_isMissing_4 rfl (lv_at hl 1 rfl) ?_
  refine rb_ild hx hb hK hP 5 4 rfl rfl (i := j) (by omega) (by decide) dX0_isMissing_5 ?_
  refine lv_if_eq (tgt := 21) hx hb dX0_isMissing_6 (by decide) (fun c0 => ?_) (fun c0 => ?_)
  · refine lv_iconst (v := nI 0) hx hb dX0_isMissing_21 (by decide) ?_
    exact rb_top (rn_b0 (decide_eq_false (fun q9 => q9.1 c0))) (hret _ _ dX0_isMissing_22)
  · refine lv_aload_n hx hb dX0_isMissing_9 rfl (lv_at hl 0 rfl) ?_
    refine lv_iload_n hx hb dX0_isMissing_10 rfl (lv_at hl 1 rfl) ?_
    refine rd_call (ci := 0) (b := h) (As := [.int (nI j)]) (rest := []) ⟨hx, hb, hml, hown, hts⟩ (kX0_isGiven l D h q cs fh n fb fl fg fr k (by omega) (by omega) j hj) (cwV 1 hts gX0_isMissing_X0_isGiven rfl rfl rfl (by decide +kernel) ⟨Nat.le_of_ble_eq_true rfl, Nat.le_of_ble_eq_true rfl⟩) hK hP rfl rfl rfl rfl hl.1 rfl (Nat.le_of_ble_eq_true rfl) dX0_isMissing_11 ⟨Nat.zero_le _, Nat.zero_le _⟩ ?_
    refine lv_if_ne (tgt := 21) hx hb dX0_isMissing_14 (by decide) (fun c1 => ?_) (fun c1 => ?_)
    · refine lv_iconst (v := nI 0) hx hb dX0_isMissing_21 (by decide) ?_
      exact rb_top (rn_b0 (decide_eq_false (fun q9 => of_decide_eq_true (rn_b_ne c1) q9.2))) (hret _ _ dX0_isMissing_22)
    · refine lv_iconst (v := nI 1) hx hb dX0_isMissing_17 (by decide) ?_
      refine lv_goto (tgt := 22) hx hb dX0_isMissing_18 (by decide) ?_
      exact rb_top (rn_b1 (decide_eq_true ⟨c0, Decidable.not_not.mp (of_decide_eq_false (rn_b_eq c1))⟩)) (hret _ _ dX0_isMissing_22)
abbrev rmX0_isInHand : Room := { frames := 0, cells := 0, slots := 0, locals := 0 }
set_option maxHeartbeats 4000000 in
set_option maxRecDepth 100000 in
theorem kX0_isInHand (l : Launch) (D : va_G) (h : Nat) (q : Nat → Nat) (cs : Nat → ClassId) (fh : Nat → Int32) (n : Nat) (fb fl fg fr : Nat → Int32) (k : Nat) (hn : n ≤ 60) (hk : k ≤ 200) (j : Nat) (hj : j < k) : Met l yX0_isInHand wsX0_isInHand rmX0_isInHand (rd_P D vwCl (tX cs) [.ref h, .int (nI j)] (wX h q cs fh n fb fl fg fr k)) (QcRead (rn_b (rn_mt fh n fb fl j))) 0 0 (fun _ => False) := by
  refine rd_of (cc := cX0_isInHand) (maxL := 3) (ty := .boolean) (by decide) rfl (rn_b_nar _) (Nat.le_of_ble_eq_true rfl) ?_
  intro p e s m args below meth c ls Q hx hb hml hown hts hK hP hl hret
  have hown : s.vm.findClass RX0 = some m.cls := hown
  have hin : ∀ w ∈ wsX00, w ∈ wsX0_isInHand := by decide +kernel
  have hl : lv_has ls 3 [(0, .ref h), (1, .int (nI j))] := hl
  have loop : ∀ (f : Nat) (i : Nat) (ls : Array Slot), i + f = n → fl j = nI n → (∀ x, x < i → fb (j * 60 + x) = fh x) → lv_has ls 3 [(0, .ref h), (1, .int (nI j)), (2, .int (nI i))] → W p l e rmX0_isInHand s m args below meth c s.heap [] 0 0 Q (F0 m 17 ls []) := by
    intro f
    induction f with
    | zero =>
      intro i ls hi hc hq hl
      refine lv_iload_n hx hb dX0_isInHand_17 rfl (lv_at hl 2 rfl) ?_
      refine lv_aload_n hx hb dX0_isInHand_18 rfl (lv_at hl 0 rfl) ?_
      refine va_get (D := D) (ci := 0) (v := .int (nI n)) (C := RX0) (T := TX0) (N := 7) hx hb hts hin hown hK hP 0 rfl rfl 1 (by decide) (hts (.fieldLink RX0 13 "ReferredNames" "handLength" "I") (by decide +kernel)) (fun _ h9 => h9) rfl dX0_isInHand_19 ?_
      refine lv_icmp_ge (tgt := 53) hx hb dX0_isInHand_22 (by decide) (fun c1 => ?_) (fun c1 => ?_)
      · rw [nI_leI (by omega) (by omega)] at c1
        refine lv_iconst (v := nI 1) hx hb dX0_isInHand_53 (by decide) ?_
        exact rb_top (rn_b1 (decide_eq_true ⟨hc, fun x hx => hq x (by omega)⟩)) (hret _ _ dX0_isInHand_54)
      · rw [nI_leI (by omega) (by omega)] at c1
        exfalso; omega
    | succ f ih =>
      intro i ls hi hc hq hl
      refine lv_iload_n hx hb dX0_isInHand_17 rfl (lv_at hl 2 rfl) ?_
      refine lv_aload_n hx hb dX0_isInHand_18 rfl (lv_at hl 0 rfl) ?_
      refine va_get (D := D) (ci := 0) (v := .int (nI n)) (C := RX0) (T := TX0) (N := 7) hx hb hts hin hown hK hP 0 rfl rfl 1 (by decide) (hts (.fieldLink RX0 13 "ReferredNames" "handLength" "I") (by decide +kernel)) (fun _ h9 => h9) rfl dX0_isInHand_19 ?_
      refine lv_icmp_ge (tgt := 53) hx hb dX0_isInHand_22 (by decide) (fun c1 => ?_) (fun c1 => ?_)
      · rw [nI_leI (by omega) (by omega)] at c1
        exfalso; omega
      · rw [nI_leI (by omega) (by omega)] at c1
        refine lv_aload_n hx hb dX0_isInHand_25 rfl (lv_at hl 0 rfl) ?_
        refine va_get (D := D) (ci := 0) (v := .ref (q 2)) (C := RX0) (T := TX0) (N := 7) hx hb hts hin hown hK hP 0 rfl rfl 2 (by decide) (hts (.fieldLink RX0 17 "ReferredNames" "bytes" "[B") (by decide +kernel)) (fun _ h9 => h9) rfl dX0_isInHand_26 ?_
        refine lv_iload_n hx hb dX0_isInHand_29 rfl (lv_at hl 1 rfl) ?_
        refine lv_bipush (v := nI 60) hx hb dX0_isInHand_30 (by decide) ?_
        refine lv_imul hx hb dX0_isInHand_32 ?_
        refine rb_top (y := nI (j * 60)) (pk_mul j 60) ?_
        refine lv_iload_n hx hb dX0_isInHand_33 rfl (lv_at hl 2 rfl) ?_
        refine lv_iadd hx hb dX0_isInHand_34 ?_
        refine rb_top (y := nI ((j * 60) + i)) (nI_add (j * 60) i) ?_
        refine rb_bld hx hb hK hP 2 1 rfl rfl (i := (j * 60) + i) (by omega) (by decide) dX0_isInHand_35 ?_
        refine lv_aload_n hx hb dX0_isInHand_36 rfl (lv_at hl 0 rfl) ?_
        refine va_get (D := D) (ci := 0) (v := .ref (q 1)) (C := RX0) (T := TX0) (N := 7) hx hb hts hin hown hK hP 0 rfl rfl 0 (by decide) (hts (.fieldLink RX0 9 "ReferredNames" "hand" "[B") (by decide +kernel)) (fun _ h9 => h9) rfl dX0_isInHand_37 ?_
        refine lv_iload_n hx hb dX0_isInHand_40 rfl (lv_at hl 2 rfl) ?_
        refine rb_bld hx hb hK hP 1 0 rfl rfl (i := i) (by omega) (by decide) dX0_isInHand_41 ?_
        refine lv_icmp_eq (tgt := 47) hx hb dX0_isInHand_42 (by decide) (fun c2 => ?_) (fun c2 => ?_)
        · refine lv_iinc (v := nI (i + 1)) (lv' := [(2, .int (nI (i + 1))), (0, .ref h), (1, .int (nI j))]) hx hb dX0_isInHand_47 hl (k := 2) rfl (nI_1 i) (by decide) rfl (fun ls hl => ?_)
          refine lv_goto (tgt := 17) hx hb dX0_isInHand_50 (by decide) ?_
          exact ih (i + 1) ls (by omega) hc (lt_s hq c2) (lv_sub hl [1, 2, 0] rfl)
        · refine lv_iconst (v := nI 0) hx hb dX0_isInHand_45 (by decide) ?_
          exact rb_top (rn_b0 (decide_eq_false (fun q9 => c2 (q9.2 i (by omega))))) (hret _ _ dX0_isInHand_46)
  refine lv_aload_n hx hb dX0_isInHand_0 rfl (lv_at hl 0 rfl) ?_
  refine va_get (D := D) (ci := 0) (v := .ref (q 3)) (C := RX0) (T := TX0) (N := 7) hx hb hts hin hown hK hP 0 rfl rfl 3 (by decide) (hts (.fieldLink RX0 20 "ReferredNames" "lengths" "[I") (by decide +kernel)) (fun _ h9 => h9) rfl dX0_isInHand_1 ?_
  refine lv_iload_n hx hb dX0_isInHand_4 rfl (lv_at hl 1 rfl) ?_
  refine rb_ild hx hb hK hP 3 2 rfl rfl (i := j) (by omega) (by decide) dX0_isInHand_5 ?_
  refine lv_aload_n hx hb dX0_isInHand_6 rfl (lv_at hl 0 rfl) ?_
  refine va_get (D := D) (ci := 0) (v := .int (nI n)) (C := RX0) (T := TX0) (N := 7) hx hb hts hin hown hK hP 0 rfl rfl 1 (by decide) (hts (.fieldLink RX0 13 "ReferredNames" "handLength" "I") (by decide +kernel)) (fun _ h9 => h9) rfl dX0_isInHand_7 ?_
  refine lv_icmp_eq (tgt := 15) hx hb dX0_isInHand_10 (by decide) (fun c0 => ?_) (fun c0 => ?_)
  · refine lv_iconst (v := nI 0) hx hb dX0_isInHand_15 (by decide) ?_
    refine lv_istore_n (lv' := [(2, .int (nI 0)), (0, .ref h), (1, .int (nI j))]) hx hb dX0_isInHand_16 rfl hl (by decide) rfl (fun ls hl => ?_)
    exact loop n 0 ls (by omega) c0 lt_0 (lv_sub hl [1, 2, 0] rfl)
  · refine lv_iconst (v := nI 0) hx hb dX0_isInHand_13 (by decide) ?_
    exact rb_top (rn_b0 (decide_eq_false (fun q9 => c0 q9.1))) (hret _ _ dX0_isInHand_14)
abbrev rmX0_find : Room := { frames := 1, cells := 0, slots := 0, locals := 22 }
set_option maxHeartbeats 4000000 in
set_option maxRecDepth 100000 in
theorem kX0_find (l : Launch) (D : va_G) (h : Nat) (q : Nat → Nat) (cs : Nat → ClassId) (fh : Nat → Int32) (n : Nat) (fb fl fg fr : Nat → Int32) (k : Nat) (hn : n ≤ 60) (hk : k ≤ 200) : Met l yX0_find wsX0_find rmX0_find (rd_P D vwCl (tX cs) [.ref h] (wX h q cs fh n fb fl fg fr k)) (QcRead (rn_ff (rn_mt fh n fb fl) k 0)) 0 0 (fun _ => False) := by
  refine rd_of (cc := cX0_find) (maxL := 2) (ty := .int) (by decide) rfl rfl (Nat.le_of_ble_eq_true rfl) ?_
  intro p e s m args below meth c ls Q hx hb hml hown hts hK hP hl hret
  have hown : s.vm.findClass RX0 = some m.cls := hown
  have hin : ∀ w ∈ wsX00, w ∈ wsX0_find := by decide +kernel
  have hl : lv_has ls 2 [(0, .ref h)] := hl
  have loop : ∀ (f : Nat) (j : Nat) (ls : Array Slot), j + f = k → rn_ff (rn_mt fh n fb fl) k 0 = rn_ff (rn_mt fh n fb fl) f j → lv_has ls 2 [(0, .ref h), (1, .int (nI j))] → W p l e rmX0_find s m args below meth c s.heap [] 0 0 Q (F0 m 2 ls []) := by
    intro f
    induction f with
    | zero =>
      intro j ls hj hr hl
      refine lv_iload_n hx hb dX0_find_2 rfl (lv_at hl 1 rfl) ?_
      refine lv_aload_n hx hb dX0_find_3 rfl (lv_at hl 0 rfl) ?_
      refine va_get (D := D) (ci := 0) (v := .int (nI k)) (C := RX0) (T := TX0) (N := 7) hx hb hts hin hown hK hP 0 rfl rfl 6 (by decide) (hts (.fieldLink RX0 30 "ReferredNames" "known" "I") (by decide +kernel)) (fun _ h9 => h9) rfl dX0_find_4 ?_
      refine lv_icmp_ge (tgt := 26) hx hb dX0_find_7 (by decide) (fun c0 => ?_) (fun c0 => ?_)
      · rw [nI_leI (by omega) (by omega)] at c0
        refine lv_iconst (v := (-1)) hx hb dX0_find_26 (by decide) ?_
        exact rb_top (by rw [hr]; rfl) (hret _ _ dX0_find_27)
      · rw [nI_leI (by omega) (by omega)] at c0
        exfalso; omega
    | succ f ih =>
      intro j ls hj hr hl
      refine lv_iload_n hx hb dX0_find_2 rfl (lv_at hl 1 rfl) ?_
      refine lv_aload_n hx hb dX0_find_3 rfl (lv_at hl 0 rfl) ?_
      refine va_get (D := D) (ci := 0) (v := .int (nI k)) (C := RX0) (T := TX0) (N := 7) hx hb hts hin hown hK hP 0 rfl rfl 6 (by decide) (hts (.fieldLink RX0 30 "ReferredNames" "known" "I") (by decide +kernel)) (fun _ h9 => h9) rfl dX0_find_4 ?_
      refine lv_icmp_ge (tgt := 26) hx hb dX0_find_7 (by decide) (fun c0 => ?_) (fun c0 => ?_)
      · rw [nI_leI (by omega) (by omega)] at c0
        exfalso; omega
      · rw [nI_leI (by omega) (by omega)] at c0
        refine lv_aload_n hx hb dX0_find_10 rfl (lv_at hl 0 rfl) ?_
        refine lv_iload_n hx hb dX0_find_11 rfl (lv_at hl 1 rfl) ?_
        refine rd_call (ci := 0) (b := h) (As := [.int (nI j)]) (rest := []) ⟨hx, hb, hml, hown, hts⟩ (kX0_isInHand l D h q cs fh n fb fl fg fr k (by omega) (by omega) j (by omega)) (cwV 1 hts gX0_find_X0_isInHand rfl rfl rfl (by decide +kernel) ⟨Nat.le_of_ble_eq_true rfl, Nat.le_of_ble_eq_true rfl⟩) hK hP rfl rfl rfl rfl hl.1 rfl (Nat.le_of_ble_eq_true rfl) dX0_find_12 ⟨Nat.zero_le _, Nat.zero_le _⟩ ?_
        refine lv_if_eq (tgt := 20) hx hb dX0_find_15 (by decide) (fun c1 => ?_) (fun c1 => ?_)
        · refine lv_iinc (v := nI (j + 1)) (lv' := [(1, .int (nI (j + 1))), (0, .ref h)]) hx hb dX0_find_20 hl (k := 1) rfl (nI_1 j) (by decide) rfl (fun ls hl => ?_)
          refine lv_goto (tgt := 2) hx hb dX0_find_23 (by decide) ?_
          exact ih (j + 1) ls (by omega) (hr.trans (rn_ff_f (rn_b_eq c1))) (lv_sub hl [1, 0] rfl)
        · refine lv_iload_n hx hb dX0_find_18 rfl (lv_at hl 1 rfl) ?_
          exact rb_top ((hr.trans (rn_ff_t (rn_b_ne c1))).symm) (hret _ _ dX0_find_19)
  refine lv_iconst (v := nI 0) hx hb dX0_find_0 (by decide) ?_
  refine lv_istore_n (lv' := [(1, .int (nI 0)), (0, .ref h)]) hx hb dX0_find_1 rfl hl (by decide) rfl (fun ls hl => ?_)
  exact loop k 0 ls (by omega) rfl (lv_sub hl [1, 0] rfl)
abbrev rmX0_firstMissingFrom : Room := { frames := 2, cells := 0, slots := 0, locals := 42 }
set_option maxHeartbeats 4000000 in
set_option maxRecDepth 100000 in
theorem kX0_firstMissingFrom (l : Launch) (D : va_G) (h : Nat) (q : Nat → Nat) (cs : Nat → ClassId) (fh : Nat → Int32) (n : Nat) (fb fl fg fr : Nat → Int32) (k : Nat) (hn : n ≤ 60) (hk : k ≤ 200) (a : Nat) (ha : a ≤ k) : Met l yX0_firstMissingFrom wsX0_firstMissingFrom rmX0_firstMissingFrom (rd_P D vwCl (tX cs) [.ref h, .int (nI a)] (wX h q cs fh n fb fl fg fr k)) (QcRead (rn_ff (rn_mi fg fr) (k - a) a)) 0 0 (fun _ => False) := by
  refine rd_of (cc := cX0_firstMissingFrom) (maxL := 3) (ty := .int) (by decide) rfl rfl (Nat.le_of_ble_eq_true rfl) ?_
  intro p e s m args below meth c ls Q hx hb hml hown hts hK hP hl hret
  have hown : s.vm.findClass RX0 = some m.cls := hown
  have hin : ∀ w ∈ wsX00, w ∈ wsX0_firstMissingFrom := by decide +kernel
  have hl : lv_has ls 3 [(0, .ref h), (1, .int (nI a))] := hl
  have loop : ∀ (f : Nat) (j : Nat) (ls : Array Slot), j + f = k → rn_ff (rn_mi fg fr) (k - a) a = rn_ff (rn_mi fg fr) f j → lv_has ls 3 [(0, .ref h), (2, .int (nI j))] → W p l e rmX0_firstMissingFrom s m args below meth c s.heap [] 0 0 Q (F0 m 2 ls []) := by
    intro f
    induction f with
    | zero =>
      intro j ls hj hr hl
      refine lv_iload_n hx hb dX0_firstMissingFrom_2 rfl (lv_at hl 1 rfl) ?_
      refine lv_aload_n hx hb dX0_firstMissingFrom_3 rfl (lv_at hl 0 rfl) ?_
      refine va_get (D := D) (ci := 0) (v := .int (nI k)) (C := RX0) (T := TX0) (N := 7) hx hb hts hin hown hK hP 0 rfl rfl 6 (by decide) (hts (.fieldLink RX0 30 "ReferredNames" "known" "I") (by decide +kernel)) (fun _ h9 => h9) rfl dX0_firstMissingFrom_4 ?_
      refine lv_icmp_ge (tgt := 26) hx hb dX0_firstMissingFrom_7 (by decide) (fun c0 => ?_) (fun c0 => ?_)
      · rw [nI_leI (by omega) (by omega)] at c0
        refine lv_iconst (v := (-1)) hx hb dX0_firstMissingFrom_26 (by decide) ?_
        exact rb_top (by rw [hr]; rfl) (hret _ _ dX0_firstMissingFrom_27)
      · rw [nI_leI (by omega) (by omega)] at c0
        exfalso; omega
    | succ f ih =>
      intro j ls hj hr hl
      refine lv_iload_n hx hb dX0_firstMissingFrom_2 rfl (lv_at hl 1 rfl) ?_
      refine lv_aload_n hx hb dX0_firstMissingFrom_3 rfl (lv_at hl 0 rfl) ?_
      refine va_get (D := D) (ci := 0) (v := .int (nI k)) (C := RX0) (T := TX0) (N := 7) hx hb hts hin hown hK hP 0 rfl rfl 6 (by decide) (hts (.fieldLink RX0 30 "ReferredNames" "known" "I") (by decide +kernel)) (fun _ h9 => h9) rfl dX0_firstMissingFrom_4 ?_
      refine lv_icmp_ge (tgt := 26) hx hb dX0_firstMissingFrom_7 (by decide) (fun c0 => ?_) (fun c0 => ?_)
      · rw [nI_leI (by omega) (by omega)] at c0
        exfalso; omega
      · rw [nI_leI (by omega) (by omega)] at c0
        refine lv_aload_n hx hb dX0_firstMissingFrom_10 rfl (lv_at hl 0 rfl) ?_
        refine lv_iload_n hx hb dX0_firstMissingFrom_11 rfl (lv_at hl 1 rfl) ?_
        refine rd_call (ci := 0) (b := h) (As := [.int (nI j)]) (rest := []) ⟨hx, hb, hml, hown, hts⟩ (kX0_isMissing l D h q cs fh n fb fl fg fr k (by omega) (by omega) j (by omega)) (cwV 1 hts gX0_firstMissingFrom_X0_isMissing rfl rfl rfl (by decide +kernel) ⟨Nat.le_of_ble_eq_true rfl, Nat.le_of_ble_eq_true rfl⟩) hK hP rfl rfl rfl rfl hl.1 rfl (Nat.le_of_ble_eq_true rfl) dX0_firstMissingFrom_12 ⟨Nat.zero_le _, Nat.zero_le _⟩ ?_
        refine lv_if_eq (tgt := 20) hx hb dX0_firstMissingFrom_15 (by decide) (fun c1 => ?_) (fun c1 => ?_)
        · refine lv_iinc (v := nI (j + 1)) (lv' := [(2, .int (nI (j + 1))), (0, .ref h)]) hx hb dX0_firstMissingFrom_20 hl (k := 1) rfl (nI_1 j) (by decide) rfl (fun ls hl => ?_)
          refine lv_goto (tgt := 2) hx hb dX0_firstMissingFrom_23 (by decide) ?_
          exact ih (j + 1) ls (by omega) (hr.trans (rn_ff_f (rn_b_eq c1))) (lv_sub hl [1, 0] rfl)
        · refine lv_iload_n hx hb dX0_firstMissingFrom_18 rfl (lv_at hl 1 rfl) ?_
          exact rb_top ((hr.trans (rn_ff_t (rn_b_ne c1))).symm) (hret _ _ dX0_firstMissingFrom_19)
  refine lv_iload_n hx hb dX0_firstMissingFrom_0 rfl (lv_at hl 1 rfl) ?_
  refine lv_istore_n (lv' := [(2, .int (nI a)), (0, .ref h), (1, .int (nI a))]) hx hb dX0_firstMissingFrom_1 rfl hl (by decide) rfl (fun ls hl => ?_)
  exact loop (k - a) a ls (by omega) rfl (lv_sub hl [1, 0] rfl)
abbrev rmX0_countGiven : Room := { frames := 1, cells := 0, slots := 0, locals := 21 }
set_option maxHeartbeats 4000000 in
set_option maxRecDepth 100000 in
theorem kX0_countGiven (l : Launch) (D : va_G) (h : Nat) (q : Nat → Nat) (cs : Nat → ClassId) (fh : Nat → Int32) (n : Nat) (fb fl fg fr : Nat → Int32) (k : Nat) (hn : n ≤ 60) (hk : k ≤ 200) : Met l yX0_countGiven wsX0_countGiven rmX0_countGiven (rd_P D vwCl (tX cs) [.ref h] (wX h q cs fh n fb fl fg fr k)) (QcRead (rn_fo (rn_g1 fg) k 0 0)) 0 0 (fun _ => False) := by
  refine rd_of (cc := cX0_countGiven) (maxL := 3) (ty := .int) (by decide) rfl rfl (Nat.le_of_ble_eq_true rfl) ?_
  intro p e s m args below meth c ls Q hx hb hml hown hts hK hP hl hret
  have hown : s.vm.findClass RX0 = some m.cls := hown
  have hin : ∀ w ∈ wsX00, w ∈ wsX0_countGiven := by decide +kernel
  have hl : lv_has ls 3 [(0, .ref h)] := hl
  have loop : ∀ (f : Nat) (j : Nat) (a : Int32) (ls : Array Slot), j + f = k → rn_fo (rn_g1 fg) k 0 0 = rn_fo (rn_g1 fg) f j a → lv_has ls 3 [(0, .ref h), (1, .int a), (2, .int (nI j))] → W p l e rmX0_countGiven s m args below meth c s.heap [] 0 0 Q (F0 m 4 ls []) := by
    intro f
    induction f with
    | zero =>
      intro j a ls hj hr hl
      refine lv_iload_n hx hb dX0_countGiven_4 rfl (lv_at hl 2 rfl) ?_
      refine lv_aload_n hx hb dX0_countGiven_5 rfl (lv_at hl 0 rfl) ?_
      refine va_get (D := D) (ci := 0) (v := .int (nI k)) (C := RX0) (T := TX0) (N := 7) hx hb hts hin hown hK hP 0 rfl rfl 6 (by decide) (hts (.fieldLink RX0 30 "ReferredNames" "known" "I") (by decide +kernel)) (fun _ h9 => h9) rfl dX0_countGiven_6 ?_
      refine lv_icmp_ge (tgt := 29) hx hb dX0_countGiven_9 (by decide) (fun c0 => ?_) (fun c0 => ?_)
      · rw [nI_leI (by omega) (by omega)] at c0
        refine lv_iload_n hx hb dX0_countGiven_29 rfl (lv_at hl 1 rfl) ?_
        exact rb_top (hr.symm) (hret _ _ dX0_countGiven_30)
      · rw [nI_leI (by omega) (by omega)] at c0
        exfalso; omega
    | succ f ih =>
      intro j a ls hj hr hl
      refine lv_iload_n hx hb dX0_countGiven_4 rfl (lv_at hl 2 rfl) ?_
      refine lv_aload_n hx hb dX0_countGiven_5 rfl (lv_at hl 0 rfl) ?_
      refine va_get (D := D) (ci := 0) (v := .int (nI k)) (C := RX0) (T := TX0) (N := 7) hx hb hts hin hown hK hP 0 rfl rfl 6 (by decide) (hts (.fieldLink RX0 30 "ReferredNames" "known" "I") (by decide +kernel)) (fun _ h9 => h9) rfl dX0_countGiven_6 ?_
      refine lv_icmp_ge (tgt := 29) hx hb dX0_countGiven_9 (by decide) (fun c0 => ?_) (fun c0 => ?_)
      · rw [nI_leI (by omega) (by omega)] at c0
        exfalso; omega
      · rw [nI_leI (by omega) (by omega)] at c0
        refine lv_aload_n hx hb dX0_countGiven_12 rfl (lv_at hl 0 rfl) ?_
        refine lv_iload_n hx hb dX0_countGiven_13 rfl (lv_at hl 2 rfl) ?_
        refine rd_call (ci := 0) (b := h) (As := [.int (nI j)]) (rest := []) ⟨hx, hb, hml, hown, hts⟩ (kX0_isGiven l D h q cs fh n fb fl fg fr k (by omega) (by omega) j (by omega)) (cwV 1 hts gX0_countGiven_X0_isGiven rfl rfl rfl (by decide +kernel) ⟨Nat.le_of_ble_eq_true rfl, Nat.le_of_ble_eq_true rfl⟩) hK hP rfl rfl rfl rfl hl.1 rfl (Nat.le_of_ble_eq_true rfl) dX0_countGiven_14 ⟨Nat.zero_le _, Nat.zero_le _⟩ ?_
        refine lv_if_eq (tgt := 23) hx hb dX0_countGiven_17 (by decide) (fun c1 => ?_) (fun c1 => ?_)
        · refine lv_iinc (v := nI (j + 1)) (lv' := [(2, .int (nI (j + 1))), (0, .ref h), (1, .int a)]) hx hb dX0_countGiven_23 hl (k := 2) rfl (nI_1 j) (by decide) rfl (fun ls hl => ?_)
          refine lv_goto (tgt := 4) hx hb dX0_countGiven_26 (by decide) ?_
          exact ih (j + 1) (a) ls (by omega) (hr.trans (rn_fo_s (rn_g1_f (rn_b_eq c1)))) (lv_sub hl [1, 2, 0] rfl)
        · refine lv_iinc (v := a + 1) (lv' := [(1, .int (a + 1)), (0, .ref h), (2, .int (nI j))]) hx hb dX0_countGiven_20 hl (k := 1) rfl rfl (by decide) rfl (fun ls hl => ?_)
          refine lv_iinc (v := nI (j + 1)) (lv' := [(2, .int (nI (j + 1))), (1, .int (a + 1)), (0, .ref h)]) hx hb dX0_countGiven_23 hl (k := 2) rfl (nI_1 j) (by decide) rfl (fun ls hl => ?_)
          refine lv_goto (tgt := 4) hx hb dX0_countGiven_26 (by decide) ?_
          exact ih (j + 1) (a + 1) ls (by omega) (hr.trans (rn_fo_s (rn_g1_t (rn_b_ne c1)))) (lv_sub hl [2, 1, 0] rfl)
  refine lv_iconst (v := nI 0) hx hb dX0_countGiven_0 (by decide) ?_
  refine lv_istore_n (lv' := [(1, .int (nI 0)), (0, .ref h)]) hx hb dX0_countGiven_1 rfl hl (by decide) rfl (fun ls hl => ?_)
  refine lv_iconst (v := nI 0) hx hb dX0_countGiven_2 (by decide) ?_
  refine lv_istore_n (lv' := [(2, .int (nI 0)), (1, .int (nI 0)), (0, .ref h)]) hx hb dX0_countGiven_3 rfl hl (by decide) rfl (fun ls hl => ?_)
  exact loop k 0 0 ls (by omega) rfl (lv_sub hl [2, 1, 0] rfl)
abbrev rmX0_countMissing : Room := { frames := 2, cells := 0, slots := 0, locals := 42 }
set_option maxHeartbeats 4000000 in
set_option maxRecDepth 100000 in
theorem kX0_countMissing (l : Launch) (D : va_G) (h : Nat) (q : Nat → Nat) (cs : Nat → ClassId) (fh : Nat → Int32) (n : Nat) (fb fl fg fr : Nat → Int32) (k : Nat) (hn : n ≤ 60) (hk : k ≤ 200) : Met l yX0_countMissing wsX0_countMissing rmX0_countMissing (rd_P D vwCl (tX cs) [.ref h] (wX h q cs fh n fb fl fg fr k)) (QcRead (rn_fo (rn_g2 fg fr) k 0 0)) 0 0 (fun _ => False) := by
  refine rd_of (cc := cX0_countMissing) (maxL := 3) (ty := .int) (by decide) rfl rfl (Nat.le_of_ble_eq_true rfl) ?_
  intro p e s m args below meth c ls Q hx hb hml hown hts hK hP hl hret
  have hown : s.vm.findClass RX0 = some m.cls := hown
  have hin : ∀ w ∈ wsX00, w ∈ wsX0_countMissing := by decide +kernel
  have hl : lv_has ls 3 [(0, .ref h)] := hl
  have loop : ∀ (f : Nat) (j : Nat) (a : Int32) (ls : Array Slot), j + f = k → rn_fo (rn_g2 fg fr) k 0 0 = rn_fo (rn_g2 fg fr) f j a → lv_has ls 3 [(0, .ref h), (1, .int a), (2, .int (nI j))] → W p l e rmX0_countMissing s m args below meth c s.heap [] 0 0 Q (F0 m 4 ls []) := by
    intro f
    induction f with
    | zero =>
      intro j a ls hj hr hl
      refine lv_iload_n hx hb dX0_countMissing_4 rfl (lv_at hl 2 rfl) ?_
      refine lv_aload_n hx hb dX0_countMissing_5 rfl (lv_at hl 0 rfl) ?_
      refine va_get (D := D) (ci := 0) (v := .int (nI k)) (C := RX0) (T := TX0) (N := 7) hx hb hts hin hown hK hP 0 rfl rfl 6 (by decide) (hts (.fieldLink RX0 30 "ReferredNames" "known" "I") (by decide +kernel)) (fun _ h9 => h9) rfl dX0_countMissing_6 ?_
      refine lv_icmp_ge (tgt := 29) hx hb dX0_countMissing_9 (by decide) (fun c0 => ?_) (fun c0 => ?_)
      · rw [nI_leI (by omega) (by omega)] at c0
        refine lv_iload_n hx hb dX0_countMissing_29 rfl (lv_at hl 1 rfl) ?_
        exact rb_top (hr.symm) (hret _ _ dX0_countMissing_30)
      · rw [nI_leI (by omega) (by omega)] at c0
        exfalso; omega
    | succ f ih =>
      intro j a ls hj hr hl
      refine lv_iload_n hx hb dX0_countMissing_4 rfl (lv_at hl 2 rfl) ?_
      refine lv_aload_n hx hb dX0_countMissing_5 rfl (lv_at hl 0 rfl) ?_
      refine va_get (D := D) (ci := 0) (v := .int (nI k)) (C := RX0) (T := TX0) (N := 7) hx hb hts hin hown hK hP 0 rfl rfl 6 (by decide) (hts (.fieldLink RX0 30 "ReferredNames" "known" "I") (by decide +kernel)) (fun _ h9 => h9) rfl dX0_countMissing_6 ?_
      refine lv_icmp_ge (tgt := 29) hx hb dX0_countMissing_9 (by decide) (fun c0 => ?_) (fun c0 => ?_)
      · rw [nI_leI (by omega) (by omega)] at c0
        exfalso; omega
      · rw [nI_leI (by omega) (by omega)] at c0
        refine lv_aload_n hx hb dX0_countMissing_12 rfl (lv_at hl 0 rfl) ?_
        refine lv_iload_n hx hb dX0_countMissing_13 rfl (lv_at hl 2 rfl) ?_
        refine rd_call (ci := 0) (b := h) (As := [.int (nI j)]) (rest := []) ⟨hx, hb, hml, hown, hts⟩ (kX0_isMissing l D h q cs fh n fb fl fg fr k (by omega) (by omega) j (by omega)) (cwV 1 hts gX0_countMissing_X0_isMissing rfl rfl rfl (by decide +kernel) ⟨Nat.le_of_ble_eq_true rfl, Nat.le_of_ble_eq_true rfl⟩) hK hP rfl rfl rfl rfl hl.1 rfl (Nat.le_of_ble_eq_true rfl) dX0_countMissing_14 ⟨Nat.zero_le _, Nat.zero_le _⟩ ?_
        refine lv_if_eq (tgt := 23) hx hb dX0_countMissing_17 (by decide) (fun c1 => ?_) (fun c1 => ?_)
        · refine lv_iinc (v := nI (j + 1)) (lv' := [(2, .int (nI (j + 1))), (0, .ref h), (1, .int a)]) hx hb dX0_countMissing_23 hl (k := 2) rfl (nI_1 j) (by decide) rfl (fun ls hl => ?_)
          refine lv_goto (tgt := 4) hx hb dX0_countMissing_26 (by decide) ?_
          exact ih (j + 1) (a) ls (by omega) (hr.trans (rn_fo_s (rn_g2_f (rn_b_eq c1)))) (lv_sub hl [1, 2, 0] rfl)
        · refine lv_iinc (v := a + 1) (lv' := [(1, .int (a + 1)), (0, .ref h), (2, .int (nI j))]) hx hb dX0_countMissing_20 hl (k := 1) rfl rfl (by decide) rfl (fun ls hl => ?_)
          refine lv_iinc (v := nI (j + 1)) (lv' := [(2, .int (nI (j + 1))), (1, .int (a + 1)), (0, .ref h)]) hx hb dX0_countMissing_23 hl (k := 2) rfl (nI_1 j) (by decide) rfl (fun ls hl => ?_)
          refine lv_goto (tgt := 4) hx hb dX0_countMissing_26 (by decide) ?_
          exact ih (j + 1) (a + 1) ls (by omega) (hr.trans (rn_fo_s (rn_g2_t (rn_b_ne c1)))) (lv_sub hl [2, 1, 0] rfl)
  refine lv_iconst (v := nI 0) hx hb dX0_countMissing_0 (by decide) ?_
  refine lv_istore_n (lv' := [(1, .int (nI 0)), (0, .ref h)]) hx hb dX0_countMissing_1 rfl hl (by decide) rfl (fun ls hl => ?_)
  refine lv_iconst (v := nI 0) hx hb dX0_countMissing_2 (by decide) ?_
  refine lv_istore_n (lv' := [(2, .int (nI 0)), (1, .int (nI 0)), (0, .ref h)]) hx hb dX0_countMissing_3 rfl hl (by decide) rfl (fun ls hl => ?_)
  exact loop k 0 0 ls (by omega) rfl (lv_sub hl [2, 1, 0] rfl)
abbrev rmX0_countGivingsInVain : Room := { frames := 1, cells := 0, slots := 0, locals := 21 }
set_option maxHeartbeats 4000000 in
set_option maxRecDepth 100000 in
theorem kX0_countGivingsInVain (l : Launch) (D : va_G) (h : Nat) (q : Nat → Nat) (cs : Nat → ClassId) (fh : Nat → Int32) (n : Nat) (fb fl fg fr : Nat → Int32) (k : Nat) (hn : n ≤ 60) (hk : k ≤ 200) : Met l yX0_countGivingsInVain wsX0_countGivingsInVain rmX0_countGivingsInVain (rd_P D vwCl (tX cs) [.ref h] (wX h q cs fh n fb fl fg fr k)) (QcRead (rn_fo (rn_g3 fg) k 0 0)) 0 0 (fun _ => False) := by
  refine rd_of (cc := cX0_countGivingsInVain) (maxL := 3) (ty := .int) (by decide) rfl rfl (Nat.le_of_ble_eq_true rfl) ?_
  intro p e s m args below meth c ls Q hx hb hml hown hts hK hP hl hret
  have hown : s.vm.findClass RX0 = some m.cls := hown
  have hin : ∀ w ∈ wsX00, w ∈ wsX0_countGivingsInVain := by decide +kernel
  have hl : lv_has ls 3 [(0, .ref h)] := hl
  have loop : ∀ (f : Nat) (j : Nat) (a : Int32) (ls : Array Slot), j + f = k → rn_fo (rn_g3 fg) k 0 0 = rn_fo (rn_g3 fg) f j a → lv_has ls 3 [(0, .ref h), (1, .int a), (2, .int (nI j))] → W p l e rmX0_countGivingsInVain s m args below meth c s.heap [] 0 0 Q (F0 m 4 ls []) := by
    intro f
    induction f with
    | zero =>
      intro j a ls hj hr hl
      refine lv_iload_n hx hb dX0_countGivingsInVain_4 rfl (lv_at hl 2 rfl) ?_
      refine lv_aload_n hx hb dX0_countGivingsInVain_5 rfl (lv_at hl 0 rfl) ?_
      refine va_get (D := D) (ci := 0) (v := .int (nI k)) (C := RX0) (T := TX0) (N := 7) hx hb hts hin hown hK hP 0 rfl rfl 6 (by decide) (hts (.fieldLink RX0 30 "ReferredNames" "known" "I") (by decide +kernel)) (fun _ h9 => h9) rfl dX0_countGivingsInVain_6 ?_
      refine lv_icmp_ge (tgt := 37) hx hb dX0_countGivingsInVain_9 (by decide) (fun c0 => ?_) (fun c0 => ?_)
      · rw [nI_leI (by omega) (by omega)] at c0
        refine lv_iload_n hx hb dX0_countGivingsInVain_37 rfl (lv_at hl 1 rfl) ?_
        exact rb_top (hr.symm) (hret _ _ dX0_countGivingsInVain_38)
      · rw [nI_leI (by omega) (by omega)] at c0
        exfalso; omega
    | succ f ih =>
      intro j a ls hj hr hl
      refine lv_iload_n hx hb dX0_countGivingsInVain_4 rfl (lv_at hl 2 rfl) ?_
      refine lv_aload_n hx hb dX0_countGivingsInVain_5 rfl (lv_at hl 0 rfl) ?_
      refine va_get (D := D) (ci := 0) (v := .int (nI k)) (C := RX0) (T := TX0) (N := 7) hx hb hts hin hown hK hP 0 rfl rfl 6 (by decide) (hts (.fieldLink RX0 30 "ReferredNames" "known" "I") (by decide +kernel)) (fun _ h9 => h9) rfl dX0_countGivingsInVain_6 ?_
      refine lv_icmp_ge (tgt := 37) hx hb dX0_countGivingsInVain_9 (by decide) (fun c0 => ?_) (fun c0 => ?_)
      · rw [nI_leI (by omega) (by omega)] at c0
        exfalso; omega
      · rw [nI_leI (by omega) (by omega)] at c0
        refine lv_aload_n hx hb dX0_countGivingsInVain_12 rfl (lv_at hl 0 rfl) ?_
        refine lv_iload_n hx hb dX0_countGivingsInVain_13 rfl (lv_at hl 2 rfl) ?_
        refine rd_call (ci := 0) (b := h) (As := [.int (nI j)]) (rest := []) ⟨hx, hb, hml, hown, hts⟩ (kX0_isGiven l D h q cs fh n fb fl fg fr k (by omega) (by omega) j (by omega)) (cwV 1 hts gX0_countGivingsInVain_X0_isGiven rfl rfl rfl (by decide +kernel) ⟨Nat.le_of_ble_eq_true rfl, Nat.le_of_ble_eq_true rfl⟩) hK hP rfl rfl rfl rfl hl.1 rfl (Nat.le_of_ble_eq_true rfl) dX0_countGivingsInVain_14 ⟨Nat.zero_le _, Nat.zero_le _⟩ ?_
        refine lv_if_eq (tgt := 31) hx hb dX0_countGivingsInVain_17 (by decide) (fun c1 => ?_) (fun c1 => ?_)
        · refine lv_iinc (v := nI (j + 1)) (lv' := [(2, .int (nI (j + 1))), (0, .ref h), (1, .int a)]) hx hb dX0_countGivingsInVain_31 hl (k := 2) rfl (nI_1 j) (by decide) rfl (fun ls hl => ?_)
          refine lv_goto (tgt := 4) hx hb dX0_countGivingsInVain_34 (by decide) ?_
          exact ih (j + 1) (a) ls (by omega) (hr.trans (rn_fo_s (rn_g3_f (rn_b_eq c1)))) (lv_sub hl [1, 2, 0] rfl)
        · refine lv_iload_n hx hb dX0_countGivingsInVain_20 rfl (lv_at hl 1 rfl) ?_
          refine lv_aload_n hx hb dX0_countGivingsInVain_21 rfl (lv_at hl 0 rfl) ?_
          refine va_get (D := D) (ci := 0) (v := .ref (q 4)) (C := RX0) (T := TX0) (N := 7) hx hb hts hin hown hK hP 0 rfl rfl 4 (by decide) (hts (.fieldLink RX0 24 "ReferredNames" "givings" "[I") (by decide +kernel)) (fun _ h9 => h9) rfl dX0_countGivingsInVain_22 ?_
          refine lv_iload_n hx hb dX0_countGivingsInVain_25 rfl (lv_at hl 2 rfl) ?_
          refine rb_ild hx hb hK hP 4 3 rfl rfl (i := j) (by omega) (by decide) dX0_countGivingsInVain_26 ?_
          refine lv_iconst (v := nI 1) hx hb dX0_countGivingsInVain_27 (by decide) ?_
          refine lv_isub hx hb dX0_countGivingsInVain_28 ?_
          refine lv_iadd hx hb dX0_countGivingsInVain_29 ?_
          refine lv_istore_n (lv' := [(1, .int (a + ((fg j) - (nI 1)))), (0, .ref h), (2, .int (nI j))]) hx hb dX0_countGivingsInVain_30 rfl hl (by decide) rfl (fun ls hl => ?_)
          refine lv_iinc (v := nI (j + 1)) (lv' := [(2, .int (nI (j + 1))), (1, .int (a + ((fg j) - (nI 1)))), (0, .ref h)]) hx hb dX0_countGivingsInVain_31 hl (k := 2) rfl (nI_1 j) (by decide) rfl (fun ls hl => ?_)
          refine lv_goto (tgt := 4) hx hb dX0_countGivingsInVain_34 (by decide) ?_
          exact ih (j + 1) (a + ((fg j) - (nI 1))) ls (by omega) (hr.trans (rn_fo_s (rn_g3_t (rn_b_ne c1)))) (lv_sub hl [2, 1, 0] rfl)
  refine lv_iconst (v := nI 0) hx hb dX0_countGivingsInVain_0 (by decide) ?_
  refine lv_istore_n (lv' := [(1, .int (nI 0)), (0, .ref h)]) hx hb dX0_countGivingsInVain_1 rfl hl (by decide) rfl (fun ls hl => ?_)
  refine lv_iconst (v := nI 0) hx hb dX0_countGivingsInVain_2 (by decide) ?_
  refine lv_istore_n (lv' := [(2, .int (nI 0)), (1, .int (nI 0)), (0, .ref h)]) hx hb dX0_countGivingsInVain_3 rfl hl (by decide) rfl (fun ls hl => ?_)
  exact loop k 0 0 ls (by omega) rfl (lv_sub hl [2, 1, 0] rfl)
abbrev rmX0_look : Room := { frames := 3, cells := 0, slots := 0, locals := 64 }
set_option maxHeartbeats 4000000 in
set_option maxRecDepth 100000 in
theorem kX0_look (l : Launch) (D : va_G) (h : Nat) (q : Nat → Nat) (cs : Nat → ClassId) (fh : Nat → Int32) (n : Nat) (fb fl fg fr : Nat → Int32) (k : Nat) (hn : n ≤ 60) (hk : k ≤ 200) (x : Int32) (w : Int32) : Met l yX0_look wsX0_look rmX0_look (rd_P D vwCl (tX cs) [.ref h, .int x, .int w] (wX h q cs fh n fb fl fg fr k)) (QcRead (rn_look fl fg fr k x w)) 0 0 (fun _ => False) := by
  refine rd_of (cc := cX0_look) (maxL := 3) (ty := .int) (by decide) rfl rfl (Nat.le_of_ble_eq_true rfl) ?_
  intro p e s m args below meth c ls Q hx hb hml hown hts hK hP hl hret
  have hown : s.vm.findClass RX0 = some m.cls := hown
  have hin : ∀ w ∈ wsX00, w ∈ wsX0_look := by decide +kernel
  have hl : lv_has ls 3 [(0, .ref h), (1, .int x), (2, .int w)] := hl
  refine lv_aload_n hx hb dX0_look_0 rfl (lv_at hl 0 rfl) ?_
  refine lv_iload_n hx hb dX0_look_1 rfl (lv_at hl 1 rfl) ?_
  refine rd_call (ci := 0) (b := h) (As := [.int x]) (rest := []) ⟨hx, hb, hml, hown, hts⟩ (kX0_isKnown l D h q cs fh n fb fl fg fr k (by omega) (by omega) x) (cwV 1 hts gX0_look_X0_isKnown rfl rfl rfl (by decide +kernel) ⟨Nat.le_of_ble_eq_true rfl, Nat.le_of_ble_eq_true rfl⟩) hK hP rfl rfl rfl rfl hl.1 rfl (Nat.le_of_ble_eq_true rfl) dX0_look_2 ⟨Nat.zero_le _, Nat.zero_le _⟩ ?_
  refine lv_if_ne (tgt := 10) hx hb dX0_look_5 (by decide) (fun c0 => ?_) (fun c0 => ?_)
  · obtain ⟨j, hj, rfl⟩ := rn_kn_t (by omega) (rn_b_ne c0)
    refine lv_iload_n hx hb dX0_look_10 rfl (lv_at hl 2 rfl) ?_
    rcases rn_sw (x := w) (n := 4) (by decide) with ⟨j0s, hj0s, rfl⟩ | hj0s
    · rcases (show j0s = 0 ∨ j0s = 1 ∨ j0s = 2 ∨ j0s = 3 by omega) with rfl | rfl | rfl | rfl
      · refine lv_tableIn (off := 29) (tgt := 40) hx hb dX0_look_11 (by decide) (by decide) (by decide) (by decide) ?_
        refine lv_aload_n hx hb dX0_look_40 rfl (lv_at hl 0 rfl) ?_
        refine va_get (D := D) (ci := 0) (v := .ref (q 4)) (C := RX0) (T := TX0) (N := 7) hx hb hts hin hown hK hP 0 rfl rfl 4 (by decide) (hts (.fieldLink RX0 24 "ReferredNames" "givings" "[I") (by decide +kernel)) (fun _ h9 => h9) rfl dX0_look_41 ?_
        refine lv_iload_n hx hb dX0_look_44 rfl (lv_at hl 1 rfl) ?_
        refine rb_ild hx hb hK hP 4 3 rfl rfl (i := j) (by omega) (by decide) dX0_look_45 ?_
        exact rb_top ((rn_look_0 hj (by omega)).symm) (hret _ _ dX0_look_46)
      · refine lv_tableIn (off := 36) (tgt := 47) hx hb dX0_look_11 (by decide) (by decide) (by decide) (by decide) ?_
        refine lv_aload_n hx hb dX0_look_47 rfl (lv_at hl 0 rfl) ?_
        refine va_get (D := D) (ci := 0) (v := .ref (q 5)) (C := RX0) (T := TX0) (N := 7) hx hb hts hin hown hK hP 0 rfl rfl 5 (by decide) (hts (.fieldLink RX0 27 "ReferredNames" "referrals" "[I") (by decide +kernel)) (fun _ h9 => h9) rfl dX0_look_48 ?_
        refine lv_iload_n hx hb dX0_look_51 rfl (lv_at hl 1 rfl) ?_
        refine rb_ild hx hb hK hP 5 4 rfl rfl (i := j) (by omega) (by decide) dX0_look_52 ?_
        exact rb_top ((rn_look_1 hj (by omega)).symm) (hret _ _ dX0_look_53)
      · refine lv_tableIn (off := 43) (tgt := 54) hx hb dX0_look_11 (by decide) (by decide) (by decide) (by decide) ?_
        refine lv_aload_n hx hb dX0_look_54 rfl (lv_at hl 0 rfl) ?_
        refine va_get (D := D) (ci := 0) (v := .ref (q 3)) (C := RX0) (T := TX0) (N := 7) hx hb hts hin hown hK hP 0 rfl rfl 3 (by decide) (hts (.fieldLink RX0 20 "ReferredNames" "lengths" "[I") (by decide +kernel)) (fun _ h9 => h9) rfl dX0_look_55 ?_
        refine lv_iload_n hx hb dX0_look_58 rfl (lv_at hl 1 rfl) ?_
        refine rb_ild hx hb hK hP 3 2 rfl rfl (i := j) (by omega) (by decide) dX0_look_59 ?_
        exact rb_top ((rn_look_2 hj (by omega)).symm) (hret _ _ dX0_look_60)
      · refine lv_tableIn (off := 50) (tgt := 61) hx hb dX0_look_11 (by decide) (by decide) (by decide) (by decide) ?_
        refine lv_aload_n hx hb dX0_look_61 rfl (lv_at hl 0 rfl) ?_
        refine lv_iload_n hx hb dX0_look_62 rfl (lv_at hl 1 rfl) ?_
        refine lv_iconst (v := nI 1) hx hb dX0_look_63 (by decide) ?_
        refine lv_iadd hx hb dX0_look_64 ?_
        refine rb_top (y := nI (j + 1)) (nI_add j 1) ?_
        refine rd_call (ci := 0) (b := h) (As := [.int (nI (j + 1))]) (rest := []) ⟨hx, hb, hml, hown, hts⟩ (kX0_firstMissingFrom l D h q cs fh n fb fl fg fr k (by omega) (by omega) (j + 1) (by omega)) (cwV 1 hts gX0_look_X0_firstMissingFrom rfl rfl rfl (by decide +kernel) ⟨Nat.le_of_ble_eq_true rfl, Nat.le_of_ble_eq_true rfl⟩) hK hP rfl rfl rfl rfl hl.1 rfl (Nat.le_of_ble_eq_true rfl) dX0_look_65 ⟨Nat.zero_le _, Nat.zero_le _⟩ ?_
        exact rb_top ((rn_look_3 hj (by omega)).symm) (hret _ _ dX0_look_68)
    · refine lv_tableOut (tgt := 69) hx hb dX0_look_11 (by omega) (by decide) ?_
      refine lv_iconst (v := (-1)) hx hb dX0_look_69 (by decide) ?_
      exact rb_top ((rn_look_d hj0s).symm) (hret _ _ dX0_look_70)
  · refine lv_iconst (v := (-1)) hx hb dX0_look_8 (by decide) ?_
    exact rb_top ((rn_look_f (rn_b_eq c0)).symm) (hret _ _ dX0_look_9)
abbrev rmX0_byteOf : Room := { frames := 1, cells := 0, slots := 0, locals := 21 }
set_option maxHeartbeats 4000000 in
set_option maxRecDepth 100000 in
theorem kX0_byteOf (l : Launch) (D : va_G) (h : Nat) (q : Nat → Nat) (cs : Nat → ClassId) (fh : Nat → Int32) (n : Nat) (fb fl fg fr : Nat → Int32) (k : Nat) (hn : n ≤ 60) (hk : k ≤ 200) (x : Int32) (i : Int32) (hln : ∀ j, j < k → ∃ y : Nat, y ≤ 60 ∧ fl j = nI y) : Met l yX0_byteOf wsX0_byteOf rmX0_byteOf (rd_P D vwCl (tX cs) [.ref h, .int x, .int i] (wX h q cs fh n fb fl fg fr k)) (QcRead (rn_bo fb fl k x i)) 0 0 (fun _ => False) := by
  refine rd_of (cc := cX0_byteOf) (maxL := 3) (ty := .int) (by decide) rfl rfl (Nat.le_of_ble_eq_true rfl) ?_
  intro p e s m args below meth c ls Q hx hb hml hown hts hK hP hl hret
  have hown : s.vm.findClass RX0 = some m.cls := hown
  have hin : ∀ w ∈ wsX00, w ∈ wsX0_byteOf := by decide +kernel
  have hl : lv_has ls 3 [(0, .ref h), (1, .int x), (2, .int i)] := hl
  refine lv_aload_n hx hb dX0_byteOf_0 rfl (lv_at hl 0 rfl) ?_
  refine lv_iload_n hx hb dX0_byteOf_1 rfl (lv_at hl 1 rfl) ?_
  refine rd_call (ci := 0) (b := h) (As := [.int x]) (rest := []) ⟨hx, hb, hml, hown, hts⟩ (kX0_isKnown l D h q cs fh n fb fl fg fr k (by omega) (by omega) x) (cwV 1 hts gX0_byteOf_X0_isKnown rfl rfl rfl (by decide +kernel) ⟨Nat.le_of_ble_eq_true rfl, Nat.le_of_ble_eq_true rfl⟩) hK hP rfl rfl rfl rfl hl.1 rfl (Nat.le_of_ble_eq_true rfl) dX0_byteOf_2 ⟨Nat.zero_le _, Nat.zero_le _⟩ ?_
  refine lv_if_eq (tgt := 22) hx hb dX0_byteOf_5 (by decide) (fun c0 => ?_) (fun c0 => ?_)
  · refine lv_iconst (v := (-1)) hx hb dX0_byteOf_22 (by decide) ?_
    exact rb_top ((rn_bo_f (fun q9 => by rw [rn_b_eq c0] at q9; exact absurd q9.1 (by decide))).symm) (hret _ _ dX0_byteOf_23)
  · obtain ⟨j, hj, rfl⟩ := rn_kn_t (by omega) (rn_b_ne c0)
    refine lv_iload_n hx hb dX0_byteOf_8 rfl (lv_at hl 2 rfl) ?_
    refine lv_if_lt (tgt := 22) hx hb dX0_byteOf_9 (by decide) (fun c1 => ?_) (fun c1 => ?_)
    · refine lv_iconst (v := (-1)) hx hb dX0_byteOf_22 (by decide) ?_
      exact rb_top ((rn_bo_f (fun q9 => q9.2.1 c1)).symm) (hret _ _ dX0_byteOf_23)
    · refine lv_iload_n hx hb dX0_byteOf_12 rfl (lv_at hl 2 rfl) ?_
      refine lv_aload_n hx hb dX0_byteOf_13 rfl (lv_at hl 0 rfl) ?_
      refine va_get (D := D) (ci := 0) (v := .ref (q 3)) (C := RX0) (T := TX0) (N := 7) hx hb hts hin hown hK hP 0 rfl rfl 3 (by decide) (hts (.fieldLink RX0 20 "ReferredNames" "lengths" "[I") (by decide +kernel)) (fun _ h9 => h9) rfl dX0_byteOf_14 ?_
      refine lv_iload_n hx hb dX0_byteOf_17 rfl (lv_at hl 1 rfl) ?_
      refine rb_ild hx hb hK hP 3 2 rfl rfl (i := j) (by omega) (by decide) dX0_byteOf_18 ?_
      refine lv_icmp_lt (tgt := 24) hx hb dX0_byteOf_19 (by decide) (fun c2 => ?_) (fun c2 => ?_)
      · obtain ⟨y, hy, ey⟩ := hln j hj
        obtain ⟨z, hz, rfl⟩ := nI_of c1
        have hzy : z < y := by rw [ey, nI_ltI hz (by omega)] at c2; exact c2
        refine lv_aload_n hx hb dX0_byteOf_24 rfl (lv_at hl 0 rfl) ?_
        refine va_get (D := D) (ci := 0) (v := .ref (q 2)) (C := RX0) (T := TX0) (N := 7) hx hb hts hin hown hK hP 0 rfl rfl 2 (by decide) (hts (.fieldLink RX0 17 "ReferredNames" "bytes" "[B") (by decide +kernel)) (fun _ h9 => h9) rfl dX0_byteOf_25 ?_
        refine lv_iload_n hx hb dX0_byteOf_28 rfl (lv_at hl 1 rfl) ?_
        refine lv_bipush (v := nI 60) hx hb dX0_byteOf_29 (by decide) ?_
        refine lv_imul hx hb dX0_byteOf_31 ?_
        refine rb_top (y := nI (j * 60)) (pk_mul j 60) ?_
        refine lv_iload_n hx hb dX0_byteOf_32 rfl (lv_at hl 2 rfl) ?_
        refine lv_iadd hx hb dX0_byteOf_33 ?_
        refine rb_top (y := nI ((j * 60) + z)) (nI_add (j * 60) z) ?_
        refine rb_bld hx hb hK hP 2 1 rfl rfl (i := (j * 60) + z) (by omega) (by decide) dX0_byteOf_34 ?_
        refine lv_sipush (v := nI 255) hx hb dX0_byteOf_35 (by decide) ?_
        refine lv_iand hx hb dX0_byteOf_38 ?_
        exact rb_top ((rn_bo_t hj (by omega) hz c2).symm) (hret _ _ dX0_byteOf_39)
      · refine lv_iconst (v := (-1)) hx hb dX0_byteOf_22 (by decide) ?_
        exact rb_top ((rn_bo_f (fun q9 => c2 (by have q8 := q9.2.2; rw [nI_clamp (by omega)] at q8; exact q8))).symm) (hret _ _ dX0_byteOf_23)
abbrev rmX0_count : Room := { frames := 3, cells := 0, slots := 0, locals := 64 }
set_option maxHeartbeats 4000000 in
set_option maxRecDepth 100000 in
theorem kX0_count (l : Launch) (D : va_G) (h : Nat) (q : Nat → Nat) (cs : Nat → ClassId) (fh : Nat → Int32) (n : Nat) (fb fl fg fr : Nat → Int32) (k : Nat) (hn : n ≤ 60) (hk : k ≤ 200) (w : Int32) : Met l yX0_count wsX0_count rmX0_count (rd_P D vwCl (tX cs) [.ref h, .int w] (wX h q cs fh n fb fl fg fr k)) (QcRead (rn_cnt n fg fr k w)) 0 0 (fun _ => False) := by
  refine rd_of (cc := cX0_count) (maxL := 2) (ty := .int) (by decide) rfl rfl (Nat.le_of_ble_eq_true rfl) ?_
  intro p e s m args below meth c ls Q hx hb hml hown hts hK hP hl hret
  have hown : s.vm.findClass RX0 = some m.cls := hown
  have hin : ∀ w ∈ wsX00, w ∈ wsX0_count := by decide +kernel
  have hl : lv_has ls 2 [(0, .ref h), (1, .int w)] := hl
  refine lv_iload_n hx hb dX0_count_0 rfl (lv_at hl 1 rfl) ?_
  rcases rn_sw (x := w) (n := 6) (by decide) with ⟨j0s, hj0s, rfl⟩ | hj0s
  · rcases (show j0s = 0 ∨ j0s = 1 ∨ j0s = 2 ∨ j0s = 3 ∨ j0s = 4 ∨ j0s = 5 by omega) with rfl | rfl | rfl | rfl | rfl | rfl
    · refine lv_tableIn (off := 39) (tgt := 40) hx hb dX0_count_1 (by decide) (by decide) (by decide) (by decide) ?_
      refine lv_aload_n hx hb dX0_count_40 rfl (lv_at hl 0 rfl) ?_
      refine va_get (D := D) (ci := 0) (v := .int (nI k)) (C := RX0) (T := TX0) (N := 7) hx hb hts hin hown hK hP 0 rfl rfl 6 (by decide) (hts (.fieldLink RX0 30 "ReferredNames" "known" "I") (by decide +kernel)) (fun _ h9 => h9) rfl dX0_count_41 ?_
      exact rb_top (rn_cnt_0.symm) (hret _ _ dX0_count_44)
    · refine lv_tableIn (off := 44) (tgt := 45) hx hb dX0_count_1 (by decide) (by decide) (by decide) (by decide) ?_
      refine lv_aload_n hx hb dX0_count_45 rfl (lv_at hl 0 rfl) ?_
      refine rd_call (ci := 0) (b := h) (As := []) (rest := []) ⟨hx, hb, hml, hown, hts⟩ (kX0_countGiven l D h q cs fh n fb fl fg fr k (by omega) (by omega)) (cwV 0 hts gX0_count_X0_countGiven rfl rfl rfl (by decide +kernel) ⟨Nat.le_of_ble_eq_true rfl, Nat.le_of_ble_eq_true rfl⟩) hK hP rfl rfl rfl rfl hl.1 rfl (Nat.le_of_ble_eq_true rfl) dX0_count_46 ⟨Nat.zero_le _, Nat.zero_le _⟩ ?_
      exact rb_top (rn_cnt_1.symm) (hret _ _ dX0_count_49)
    · refine lv_tableIn (off := 49) (tgt := 50) hx hb dX0_count_1 (by decide) (by decide) (by decide) (by decide) ?_
      refine lv_aload_n hx hb dX0_count_50 rfl (lv_at hl 0 rfl) ?_
      refine rd_call (ci := 0) (b := h) (As := []) (rest := []) ⟨hx, hb, hml, hown, hts⟩ (kX0_countMissing l D h q cs fh n fb fl fg fr k (by omega) (by omega)) (cwV 0 hts gX0_count_X0_countMissing rfl rfl rfl (by decide +kernel) ⟨Nat.le_of_ble_eq_true rfl, Nat.le_of_ble_eq_true rfl⟩) hK hP rfl rfl rfl rfl hl.1 rfl (Nat.le_of_ble_eq_true rfl) dX0_count_51 ⟨Nat.zero_le _, Nat.zero_le _⟩ ?_
      exact rb_top (rn_cnt_2.symm) (hret _ _ dX0_count_54)
    · refine lv_tableIn (off := 54) (tgt := 55) hx hb dX0_count_1 (by decide) (by decide) (by decide) (by decide) ?_
      refine lv_aload_n hx hb dX0_count_55 rfl (lv_at hl 0 rfl) ?_
      refine rd_call (ci := 0) (b := h) (As := []) (rest := []) ⟨hx, hb, hml, hown, hts⟩ (kX0_countGivingsInVain l D h q cs fh n fb fl fg fr k (by omega) (by omega)) (cwV 0 hts gX0_count_X0_countGivingsInVain rfl rfl rfl (by decide +kernel) ⟨Nat.le_of_ble_eq_true rfl, Nat.le_of_ble_eq_true rfl⟩) hK hP rfl rfl rfl rfl hl.1 rfl (Nat.le_of_ble_eq_true rfl) dX0_count_56 ⟨Nat.zero_le _, Nat.zero_le _⟩ ?_
      exact rb_top (rn_cnt_3.symm) (hret _ _ dX0_count_59)
    · refine lv_tableIn (off := 59) (tgt := 60) hx hb dX0_count_1 (by decide) (by decide) (by decide) (by decide) ?_
      refine lv_aload_n hx hb dX0_count_60 rfl (lv_at hl 0 rfl) ?_
      refine va_get (D := D) (ci := 0) (v := .int (nI n)) (C := RX0) (T := TX0) (N := 7) hx hb hts hin hown hK hP 0 rfl rfl 1 (by decide) (hts (.fieldLink RX0 13 "ReferredNames" "handLength" "I") (by decide +kernel)) (fun _ h9 => h9) rfl dX0_count_61 ?_
      exact rb_top (rn_cnt_4.symm) (hret _ _ dX0_count_64)
    · refine lv_tableIn (off := 64) (tgt := 65) hx hb dX0_count_1 (by decide) (by decide) (by decide) (by decide) ?_
      refine lv_aload_n hx hb dX0_count_65 rfl (lv_at hl 0 rfl) ?_
      refine lv_iconst (v := nI 0) hx hb dX0_count_66 (by decide) ?_
      refine rd_call (ci := 0) (b := h) (As := [.int (nI 0)]) (rest := []) ⟨hx, hb, hml, hown, hts⟩ (kX0_firstMissingFrom l D h q cs fh n fb fl fg fr k (by omega) (by omega) 0 (by omega)) (cwV 1 hts gX0_count_X0_firstMissingFrom rfl rfl rfl (by decide +kernel) ⟨Nat.le_of_ble_eq_true rfl, Nat.le_of_ble_eq_true rfl⟩) hK hP rfl rfl rfl rfl hl.1 rfl (Nat.le_of_ble_eq_true rfl) dX0_count_67 ⟨Nat.zero_le _, Nat.zero_le _⟩ ?_
      exact rb_top (rn_cnt_5.symm) (hret _ _ dX0_count_70)
  · refine lv_tableOut (tgt := 71) hx hb dX0_count_1 (by omega) (by decide) ?_
    refine lv_iconst (v := (-1)) hx hb dX0_count_71 (by decide) ?_
    exact rb_top ((rn_cnt_d hj0s).symm) (hret _ _ dX0_count_72)
