abbrev rmX0_put : Room := { frames := 0, cells := 0, slots := 0, locals := 0 }
set_option maxHeartbeats 4000000 in
set_option maxRecDepth 100000 in
theorem kX0_put (l : Launch) (D : va_G) (h : Nat) (q : Nat → Nat) (cs : Nat → ClassId) (fh : Nat → Int32) (n : Nat) (fb fl fg fr : Nat → Int32) (k : Nat) (hn : n ≤ 60) (hk : k ≤ 200) (v : Int64) (ct : Int32) (sz : Nat) : Met l yX0_put wsX0_put rmX0_put (wr_P D vwCl (tX cs) [.ref h, .long v, .int ct] (wX h q cs fh n fb fl fg fr k) sz) (wr_Q D vwCl (tX cs) (wX h q cs fh n fb fl fg fr k) (wS h q cs (rn_pt v ct fh n fb fl fg fr k).2) sz ((rn_pt v ct fh n fb fl fg fr k).1)) 0 0 (va_A (wX h q cs fh n fb fl fg fr k) sz) := by
  refine wr_of (cc := cX0_put) (maxL := 5) (ty := .boolean) (by decide) rfl rn_pt_nar (Nat.le_of_ble_eq_true rfl) ?_
  intro p e s m args below meth c ls Q A hx hb hml hown hts hK hA hP hD hS hl hret
  have hown : s.vm.findClass RX0 = some m.cls := hown
  have hin : ∀ w ∈ wsX00, w ∈ wsX0_put := by decide +kernel
  have hl : lv_has ls 5 [(0, .ref h), (1, .long v), (3, .int ct)] := hl
  refine lv_iload_n hx hb dX0_put_0 rfl (lv_at hl 2 rfl) ?_
  refine lv_iconst (v := nI 1) hx hb dX0_put_1 (by decide) ?_
  refine lv_icmp_lt (tgt := 22) hx hb dX0_put_2 (by decide) (fun c0 => ?_) (fun c0 => ?_)
  · rw [rn_pt_f (Or.inl c0)] at hret
    refine lv_iconst (v := nI 0) hx hb dX0_put_22 (by decide) ?_
    refine rb_top (y := nI 0) rfl ?_
    exact hret _ _ _ _ dX0_put_23 hP hD hS
  · refine lv_iload_n hx hb dX0_put_5 rfl (lv_at hl 2 rfl) ?_
    refine lv_bipush (v := nI 8) hx hb dX0_put_6 (by decide) ?_
    refine lv_icmp_gt (tgt := 22) hx hb dX0_put_8 (by decide) (fun c1 => ?_) (fun c1 => ?_)
    · rw [rn_pt_f (Or.inr (Or.inl c1))] at hret
      refine lv_iconst (v := nI 0) hx hb dX0_put_22 (by decide) ?_
      refine rb_top (y := nI 0) rfl ?_
      exact hret _ _ _ _ dX0_put_23 hP hD hS
    · refine lv_iload_n hx hb dX0_put_11 rfl (lv_at hl 2 rfl) ?_
      refine lv_bipush (v := nI 60) hx hb dX0_put_12 (by decide) ?_
      refine lv_aload_n hx hb dX0_put_14 rfl (lv_at hl 0 rfl) ?_
      refine va_get (D := D) (ci := 0) (v := .int (nI n)) (C := RX0) (T := TX0) (N := 7) hx hb hts hin hown hK hP 0 rfl rfl 1 (by decide) (hts (.fieldLink RX0 13 "ReferredNames" "handLength" "I") (by decide +kernel)) (fun _ h9 => h9) rfl dX0_put_15 ?_
      refine lv_isub hx hb dX0_put_18 ?_
      refine rb_top (y := nI (60 - n)) (pk_sub (a := 60) (b := n) (by omega)) ?_
      refine lv_icmp_le (tgt := 24) hx hb dX0_put_19 (by decide) (fun c2 => ?_) (fun c2 => ?_)
      · obtain ⟨cN, h1c, h8c, hnc, rfl⟩ := rn_c c0 c1 c2
        rw [rn_pt_t h1c h8c hnc] at hret
        refine lv_iload_n hx hb dX0_put_24 rfl (lv_at hl 2 rfl) ?_
        refine lv_iconst (v := nI 1) hx hb dX0_put_25 (by decide) ?_
        refine lv_isub hx hb dX0_put_26 ?_
        refine rb_top (y := nI cN + (-1)) (rn_p1 h1c) ?_
        refine lv_istore (lv' := [(4, .int (nI cN + (-1))), (0, .ref h), (1, .long v), (3, .int (nI cN))]) hx hb dX0_put_27 hl (by decide) rfl (fun ls hl => ?_)
        have loop : ∀ (f : Nat) (n1 : Nat) (f1 : Nat → Int32) (H : Heap) (locs : List Loc) (ls : Array Slot), n1 + f ≤ 60 → rn_pu v f n1 f1 = rn_pu v cN n fh → n1 + f = n + cN → va_P D vwCl (wX h q cs f1 n1 fb fl fg fr k) H → va_D A (wX h q cs f1 n1 fb fl fg fr k) → va_S A s.heap H locs → lv_has ls 5 [(0, .ref h), (1, .long v), (4, .int (nI f + (-1)))] → W p l e rmX0_put s m args below meth c H locs 0 0 Q (F0 m 29 ls []) := by
          intro f
          induction f with
          | zero =>
            intro n1 f1 H locs ls h60 he hnn hP hD hS hl
            refine lv_iload hx hb dX0_put_29 (lv_at hl 2 rfl) ?_
            refine lv_if_lt (tgt := 68) hx hb dX0_put_31 (by decide) (fun c3 => ?_) (fun c3 => ?_)
            · have he : f1 = rn_pu v cN n fh := he
              have hnn : n1 = n + cN := hnn
              rw [he, hnn] at hP hD
              refine lv_iconst (v := nI 1) hx hb dX0_put_68 (by decide) ?_
              refine rb_top (y := nI 1) rfl ?_
              exact hret _ _ _ _ dX0_put_69 hP hD hS
            · exact absurd (show nI 0 + (-1) < 0 by decide) c3
          | succ f ih =>
            intro n1 f1 H locs ls h60 he hnn hP hD hS hl
            refine lv_iload hx hb dX0_put_29 (lv_at hl 2 rfl) ?_
            refine lv_if_lt (tgt := 68) hx hb dX0_put_31 (by decide) (fun c3 => ?_) (fun c3 => ?_)
            · exact absurd c3 (by rw [pk_m1]; exact nI_pos (by omega))
            · rw [pk_m1] at hl
              refine lv_aload_n hx hb dX0_put_34 rfl (lv_at hl 0 rfl) ?_
              refine va_get (D := D) (ci := 0) (v := .ref (q 1)) (C := RX0) (T := TX0) (N := 7) hx hb hts hin hown hK hP 0 rfl rfl 0 (by decide) (hts (.fieldLink RX0 9 "ReferredNames" "hand" "[B") (by decide +kernel)) (fun _ h9 => h9) rfl dX0_put_35 ?_
              refine lv_aload_n hx hb dX0_put_38 rfl (lv_at hl 0 rfl) ?_
              refine va_get (D := D) (ci := 0) (v := .int (nI n1)) (C := RX0) (T := TX0) (N := 7) hx hb hts hin hown hK hP 0 rfl rfl 1 (by decide) (hts (.fieldLink RX0 13 "ReferredNames" "handLength" "I") (by decide +kernel)) (fun _ h9 => h9) rfl dX0_put_39 ?_
              refine lv_lload_n hx hb dX0_put_42 rfl (lv_at hl 1 rfl) ?_
              refine lv_bipush (v := nI 8) hx hb dX0_put_43 (by decide) ?_
              refine lv_iload hx hb dX0_put_45 (lv_at hl 2 rfl) ?_
              refine lv_imul hx hb dX0_put_47 ?_
              refine rb_top (y := nI (8 * f)) (pk_mul 8 f) ?_
              refine lv_lushr (v := (v.toUInt64 >>> ((nI (8 * f)).toInt64.toUInt64 &&& Int64.toUInt64 63)).toInt64) hx hb dX0_put_48 rfl ?_
              refine lv_l2i (v := ((v.toUInt64 >>> ((nI (8 * f)).toInt64.toUInt64 &&& Int64.toUInt64 63)).toInt64).toInt32) hx hb dX0_put_49 rfl ?_
              refine lv_i2b (v := (((v.toUInt64 >>> ((nI (8 * f)).toInt64.toUInt64 &&& Int64.toUInt64 63)).toInt64).toInt32).toInt8.toInt32) hx hb dX0_put_50 rfl ?_
              refine rb_top (y := rn_by v f) rfl ?_
              refine rb_bst hx hb hK hP hD hS 1 0 rfl rfl (i := n1) (by omega) (by decide) (rn_by_b v f) dX0_put_51 (fun H locs hP hD hS => ?_)
              have hP : va_P D vwCl (wX h q cs (upd f1 n1 (rn_by v f)) n1 fb fl fg fr k) H := hP
              have hD : va_D A (wX h q cs (upd f1 n1 (rn_by v f)) n1 fb fl fg fr k) := hD
              refine lv_aload_n hx hb dX0_put_52 rfl (lv_at hl 0 rfl) ?_
              refine lv_dup hx hb dX0_put_53 rfl ?_
              refine va_get (D := D) (ci := 0) (v := .int (nI n1)) (C := RX0) (T := TX0) (N := 7) hx hb hts hin hown hK hP 0 rfl rfl 1 (by decide) (hts (.fieldLink RX0 13 "ReferredNames" "handLength" "I") (by decide +kernel)) (fun _ h9 => h9) rfl dX0_put_54 ?_
              refine lv_iconst (v := nI 1) hx hb dX0_put_57 (by decide) ?_
              refine lv_iadd hx hb dX0_put_58 ?_
              refine rb_top (y := nI (n1 + 1)) (nI_add n1 1) ?_
              refine va_put (D := D) (ci := 0) (v := .int (nI (n1 + 1))) (ty := .int) (C := RX0) (T := TX0) (N := 7) hx hb hts hin tyX0 tyX0_ok nmX0 hown hK hP hD hS 0 rfl rfl 1 (by decide) (hts (.fieldLink RX0 13 "ReferredNames" "handLength" "I") (by decide +kernel)) (fun _ h9 => h9) rfl (by decide +kernel) rfl rfl (Nat.le_of_ble_eq_true rfl) dX0_put_59 (fun H locs hP hD hS => ?_)
              have hP : va_P D vwCl (wX h q cs (upd f1 n1 (rn_by v f)) (n1 + 1) fb fl fg fr k) H := hP
              have hD : va_D A (wX h q cs (upd f1 n1 (rn_by v f)) (n1 + 1) fb fl fg fr k) := hD
              refine lv_iinc (v := nI f + (-1)) (lv' := [(4, .int (nI f + (-1))), (0, .ref h), (1, .long v)]) hx hb dX0_put_62 hl (k := 2) rfl rfl (by decide) rfl (fun ls hl => ?_)
              refine lv_goto (tgt := 29) hx hb dX0_put_65 (by decide) ?_
              exact ih (n1 + 1) (upd f1 n1 (rn_by v f)) H locs ls (by omega) he (by omega) hP hD hS (lv_sub hl [1, 2, 0] rfl)
        exact loop cN n fh _ _ ls (by omega) rfl rfl hP hD hS (lv_sub hl [1, 2, 0] rfl)
      · rw [rn_pt_f (Or.inr (Or.inr (Int32.not_le.mp c2)))] at hret
        refine lv_iconst (v := nI 0) hx hb dX0_put_22 (by decide) ?_
        refine rb_top (y := nI 0) rfl ?_
        exact hret _ _ _ _ dX0_put_23 hP hD hS
abbrev rmX0_learnHand : Room := { frames := 0, cells := 0, slots := 0, locals := 0 }
set_option maxHeartbeats 4000000 in
set_option maxRecDepth 100000 in
theorem kX0_learnHand (l : Launch) (D : va_G) (h : Nat) (q : Nat → Nat) (cs : Nat → ClassId) (fh : Nat → Int32) (n : Nat) (fb fl fg fr : Nat → Int32) (k : Nat) (hn : n ≤ 60) (hk : k ≤ 200) (sz : Nat) (hby : ∀ i, (fh i).toInt8.toInt32 = fh i) : Met l yX0_learnHand wsX0_learnHand rmX0_learnHand (wr_P D vwCl (tX cs) [.ref h] (wX h q cs fh n fb fl fg fr k) sz) (wr_Q D vwCl (tX cs) (wX h q cs fh n fb fl fg fr k) (wS h q cs (rn_le fh n fb fl fg fr k).2) sz ((rn_le fh n fb fl fg fr k).1)) 0 0 (va_A (wX h q cs fh n fb fl fg fr k) sz) := by
  refine wr_of (cc := cX0_learnHand) (maxL := 3) (ty := .int) (by decide) rfl rfl (Nat.le_of_ble_eq_true rfl) ?_
  intro p e s m args below meth c ls Q A hx hb hml hown hts hK hA hP hD hS hl hret
  have hown : s.vm.findClass RX0 = some m.cls := hown
  have hin : ∀ w ∈ wsX00, w ∈ wsX0_learnHand := by decide +kernel
  have hl : lv_has ls 3 [(0, .ref h)] := hl
  refine lv_aload_n hx hb dX0_learnHand_0 rfl (lv_at hl 0 rfl) ?_
  refine va_get (D := D) (ci := 0) (v := .int (nI k)) (C := RX0) (T := TX0) (N := 7) hx hb hts hin hown hK hP 0 rfl rfl 6 (by decide) (hts (.fieldLink RX0 30 "ReferredNames" "known" "I") (by decide +kernel)) (fun _ h9 => h9) rfl dX0_learnHand_1 ?_
  refine lv_sipush (v := nI 200) hx hb dX0_learnHand_4 (by decide) ?_
  refine lv_icmp_lt (tgt := 13) hx hb dX0_learnHand_7 (by decide) (fun c0 => ?_) (fun c0 => ?_)
  · rw [nI_ltI (by omega) (by omega)] at c0
    rw [rn_le_t c0] at hret
    refine lv_aload_n hx hb dX0_learnHand_13 rfl (lv_at hl 0 rfl) ?_
    refine va_get (D := D) (ci := 0) (v := .int (nI k)) (C := RX0) (T := TX0) (N := 7) hx hb hts hin hown hK hP 0 rfl rfl 6 (by decide) (hts (.fieldLink RX0 30 "ReferredNames" "known" "I") (by decide +kernel)) (fun _ h9 => h9) rfl dX0_learnHand_14 ?_
    refine lv_istore_n (lv' := [(1, .int (nI k)), (0, .ref h)]) hx hb dX0_learnHand_17 rfl hl (by decide) rfl (fun ls hl => ?_)
    refine lv_iconst (v := nI 0) hx hb dX0_learnHand_18 (by decide) ?_
    refine lv_istore_n (lv' := [(2, .int (nI 0)), (1, .int (nI k)), (0, .ref h)]) hx hb dX0_learnHand_19 rfl hl (by decide) rfl (fun ls hl => ?_)
    have loop : ∀ (f : Nat) (i : Nat) (H : Heap) (locs : List Loc) (ls : Array Slot), i + f = n → va_P D vwCl (wX h q cs fh n (va_cpy fh fb 0 (k * 60) i) fl fg fr k) H → va_D A (wX h q cs fh n (va_cpy fh fb 0 (k * 60) i) fl fg fr k) → va_S A s.heap H locs → lv_has ls 3 [(0, .ref h), (1, .int (nI k)), (2, .int (nI i))] → W p l e rmX0_learnHand s m args below meth c H locs 0 0 Q (F0 m 20 ls []) := by
      intro f
      induction f with
      | zero =>
        intro i H locs ls hi hP hD hS hl
        refine lv_iload_n hx hb dX0_learnHand_20 rfl (lv_at hl 2 rfl) ?_
        refine lv_aload_n hx hb dX0_learnHand_21 rfl (lv_at hl 0 rfl) ?_
        refine va_get (D := D) (ci := 0) (v := .int (nI n)) (C := RX0) (T := TX0) (N := 7) hx hb hts hin hown hK hP 0 rfl rfl 1 (by decide) (hts (.fieldLink RX0 13 "ReferredNames" "handLength" "I") (by decide +kernel)) (fun _ h9 => h9) rfl dX0_learnHand_22 ?_
        refine lv_icmp_ge (tgt := 51) hx hb dX0_learnHand_25 (by decide) (fun c1 => ?_) (fun c1 => ?_)
        · rw [nI_leI (by omega) (by omega)] at c1
          have ei : i = n := by omega
          rw [ei] at hP hD
          refine lv_aload_n hx hb dX0_learnHand_51 rfl (lv_at hl 0 rfl) ?_
          refine va_get (D := D) (ci := 0) (v := .ref (q 3)) (C := RX0) (T := TX0) (N := 7) hx hb hts hin hown hK hP 0 rfl rfl 3 (by decide) (hts (.fieldLink RX0 20 "ReferredNames" "lengths" "[I") (by decide +kernel)) (fun _ h9 => h9) rfl dX0_learnHand_52 ?_
          refine lv_iload_n hx hb dX0_learnHand_55 rfl (lv_at hl 1 rfl) ?_
          refine lv_aload_n hx hb dX0_learnHand_56 rfl (lv_at hl 0 rfl) ?_
          refine va_get (D := D) (ci := 0) (v := .int (nI n)) (C := RX0) (T := TX0) (N := 7) hx hb hts hin hown hK hP 0 rfl rfl 1 (by decide) (hts (.fieldLink RX0 13 "ReferredNames" "handLength" "I") (by decide +kernel)) (fun _ h9 => h9) rfl dX0_learnHand_57 ?_
          refine rb_ist hx hb hK hP hD hS 3 2 rfl rfl (i := k) (by omega) (by decide) dX0_learnHand_60 (fun H locs hP hD hS => ?_)
          have hP : va_P D vwCl (wX h q cs fh n (va_cpy fh fb 0 (k * 60) n) (upd fl k (nI n)) fg fr k) H := hP
          have hD : va_D A (wX h q cs fh n (va_cpy fh fb 0 (k * 60) n) (upd fl k (nI n)) fg fr k) := hD
          refine lv_aload_n hx hb dX0_learnHand_61 rfl (lv_at hl 0 rfl) ?_
          refine va_get (D := D) (ci := 0) (v := .ref (q 4)) (C := RX0) (T := TX0) (N := 7) hx hb hts hin hown hK hP 0 rfl rfl 4 (by decide) (hts (.fieldLink RX0 24 "ReferredNames" "givings" "[I") (by decide +kernel)) (fun _ h9 => h9) rfl dX0_learnHand_62 ?_
          refine lv_iload_n hx hb dX0_learnHand_65 rfl (lv_at hl 1 rfl) ?_
          refine lv_iconst (v := nI 0) hx hb dX0_learnHand_66 (by decide) ?_
          refine rb_ist hx hb hK hP hD hS 4 3 rfl rfl (i := k) (by omega) (by decide) dX0_learnHand_67 (fun H locs hP hD hS => ?_)
          have hP : va_P D vwCl (wX h q cs fh n (va_cpy fh fb 0 (k * 60) n) (upd fl k (nI n)) (upd fg k (nI 0)) fr k) H := hP
          have hD : va_D A (wX h q cs fh n (va_cpy fh fb 0 (k * 60) n) (upd fl k (nI n)) (upd fg k (nI 0)) fr k) := hD
          refine lv_aload_n hx hb dX0_learnHand_68 rfl (lv_at hl 0 rfl) ?_
          refine va_get (D := D) (ci := 0) (v := .ref (q 5)) (C := RX0) (T := TX0) (N := 7) hx hb hts hin hown hK hP 0 rfl rfl 5 (by decide) (hts (.fieldLink RX0 27 "ReferredNames" "referrals" "[I") (by decide +kernel)) (fun _ h9 => h9) rfl dX0_learnHand_69 ?_
          refine lv_iload_n hx hb dX0_learnHand_72 rfl (lv_at hl 1 rfl) ?_
          refine lv_iconst (v := nI 0) hx hb dX0_learnHand_73 (by decide) ?_
          refine rb_ist hx hb hK hP hD hS 5 4 rfl rfl (i := k) (by omega) (by decide) dX0_learnHand_74 (fun H locs hP hD hS => ?_)
          have hP : va_P D vwCl (wX h q cs fh n (va_cpy fh fb 0 (k * 60) n) (upd fl k (nI n)) (upd fg k (nI 0)) (upd fr k (nI 0)) k) H := hP
          have hD : va_D A (wX h q cs fh n (va_cpy fh fb 0 (k * 60) n) (upd fl k (nI n)) (upd fg k (nI 0)) (upd fr k (nI 0)) k) := hD
          refine lv_aload_n hx hb dX0_learnHand_75 rfl (lv_at hl 0 rfl) ?_
          refine lv_dup hx hb dX0_learnHand_76 rfl ?_
          refine va_get (D := D) (ci := 0) (v := .int (nI k)) (C := RX0) (T := TX0) (N := 7) hx hb hts hin hown hK hP 0 rfl rfl 6 (by decide) (hts (.fieldLink RX0 30 "ReferredNames" "known" "I") (by decide +kernel)) (fun _ h9 => h9) rfl dX0_learnHand_77 ?_
          refine lv_iconst (v := nI 1) hx hb dX0_learnHand_80 (by decide) ?_
          refine lv_iadd hx hb dX0_learnHand_81 ?_
          refine rb_top (y := nI (k + 1)) (nI_add k 1) ?_
          refine va_put (D := D) (ci := 0) (v := .int (nI (k + 1))) (ty := .int) (C := RX0) (T := TX0) (N := 7) hx hb hts hin tyX0 tyX0_ok nmX0 hown hK hP hD hS 0 rfl rfl 6 (by decide) (hts (.fieldLink RX0 30 "ReferredNames" "known" "I") (by decide +kernel)) (fun _ h9 => h9) rfl (by decide +kernel) rfl rfl (Nat.le_of_ble_eq_true rfl) dX0_learnHand_82 (fun H locs hP hD hS => ?_)
          have hP : va_P D vwCl (wX h q cs fh n (va_cpy fh fb 0 (k * 60) n) (upd fl k (nI n)) (upd fg k (nI 0)) (upd fr k (nI 0)) (k + 1)) H := hP
          have hD : va_D A (wX h q cs fh n (va_cpy fh fb 0 (k * 60) n) (upd fl k (nI n)) (upd fg k (nI 0)) (upd fr k (nI 0)) (k + 1)) := hD
          refine lv_iload_n hx hb dX0_learnHand_85 rfl (lv_at hl 1 rfl) ?_
          refine rb_top (y := nI k) rfl ?_
          exact hret _ _ _ _ dX0_learnHand_86 hP hD hS
        · rw [nI_leI (by omega) (by omega)] at c1
          exfalso; omega
      | succ f ih =>
        intro i H locs ls hi hP hD hS hl
        refine lv_iload_n hx hb dX0_learnHand_20 rfl (lv_at hl 2 rfl) ?_
        refine lv_aload_n hx hb dX0_learnHand_21 rfl (lv_at hl 0 rfl) ?_
        refine va_get (D := D) (ci := 0) (v := .int (nI n)) (C := RX0) (T := TX0) (N := 7) hx hb hts hin hown hK hP 0 rfl rfl 1 (by decide) (hts (.fieldLink RX0 13 "ReferredNames" "handLength" "I") (by decide +kernel)) (fun _ h9 => h9) rfl dX0_learnHand_22 ?_
        refine lv_icmp_ge (tgt := 51) hx hb dX0_learnHand_25 (by decide) (fun c1 => ?_) (fun c1 => ?_)
        · rw [nI_leI (by omega) (by omega)] at c1
          exfalso; omega
        · rw [nI_leI (by omega) (by omega)] at c1
          refine lv_aload_n hx hb dX0_learnHand_28 rfl (lv_at hl 0 rfl) ?_
          refine va_get (D := D) (ci := 0) (v := .ref (q 2)) (C := RX0) (T := TX0) (N := 7) hx hb hts hin hown hK hP 0 rfl rfl 2 (by decide) (hts (.fieldLink RX0 17 "ReferredNames" "bytes" "[B") (by decide +kernel)) (fun _ h9 => h9) rfl dX0_learnHand_29 ?_
          refine lv_iload_n hx hb dX0_learnHand_32 rfl (lv_at hl 1 rfl) ?_
          refine lv_bipush (v := nI 60) hx hb dX0_learnHand_33 (by decide) ?_
          refine lv_imul hx hb dX0_learnHand_35 ?_
          refine rb_top (y := nI (k * 60)) (pk_mul k 60) ?_
          refine lv_iload_n hx hb dX0_learnHand_36 rfl (lv_at hl 2 rfl) ?_
          refine lv_iadd hx hb dX0_learnHand_37 ?_
          refine rb_top (y := nI ((k * 60) + i)) (nI_add (k * 60) i) ?_
          refine lv_aload_n hx hb dX0_learnHand_38 rfl (lv_at hl 0 rfl) ?_
          refine va_get (D := D) (ci := 0) (v := .ref (q 1)) (C := RX0) (T := TX0) (N := 7) hx hb hts hin hown hK hP 0 rfl rfl 0 (by decide) (hts (.fieldLink RX0 9 "ReferredNames" "hand" "[B") (by decide +kernel)) (fun _ h9 => h9) rfl dX0_learnHand_39 ?_
          refine lv_iload_n hx hb dX0_learnHand_42 rfl (lv_at hl 2 rfl) ?_
          refine rb_bld hx hb hK hP 1 0 rfl rfl (i := i) (by omega) (by decide) dX0_learnHand_43 ?_
          refine rb_bst hx hb hK hP hD hS 2 1 rfl rfl (i := (k * 60) + i) (by omega) (by decide) (hby i) dX0_learnHand_44 (fun H locs hP hD hS => ?_)
          have hP : va_P D vwCl (wX h q cs fh n (upd (va_cpy fh fb 0 (k * 60) i) ((k * 60) + i) (fh i)) fl fg fr k) H := hP
          have hD : va_D A (wX h q cs fh n (upd (va_cpy fh fb 0 (k * 60) i) ((k * 60) + i) (fh i)) fl fg fr k) := hD
          refine lv_iinc (v := nI (i + 1)) (lv' := [(2, .int (nI (i + 1))), (0, .ref h), (1, .int (nI k))]) hx hb dX0_learnHand_45 hl (k := 2) rfl (nI_1 i) (by decide) rfl (fun ls hl => ?_)
          refine lv_goto (tgt := 20) hx hb dX0_learnHand_48 (by decide) ?_
          rw [rn_cpy_s] at hP hD
          exact ih (i + 1) H locs ls (by omega) hP hD hS (lv_sub hl [1, 2, 0] rfl)
    exact loop n 0 _ _ ls (by omega) (by rw [rn_cpy_0]; exact hP) (by rw [rn_cpy_0]; exact hD) hS (lv_sub hl [2, 1, 0] rfl)
  · rw [nI_ltI (by omega) (by omega)] at c0
    rw [rn_le_f c0] at hret
    refine lv_bipush (v := (-2)) hx hb dX0_learnHand_10 (by decide) ?_
    refine rb_top (y := (-2)) rfl ?_
    exact hret _ _ _ _ dX0_learnHand_12 hP hD hS
abbrev rmX0_takeHand : Room := { frames := 2, cells := 0, slots := 0, locals := 43 }
set_option maxHeartbeats 4000000 in
set_option maxRecDepth 100000 in
theorem kX0_takeHand (l : Launch) (D : va_G) (h : Nat) (q : Nat → Nat) (cs : Nat → ClassId) (fh : Nat → Int32) (n : Nat) (fb fl fg fr : Nat → Int32) (k : Nat) (hn : n ≤ 60) (hk : k ≤ 200) (sz : Nat) (hby : ∀ i, (fh i).toInt8.toInt32 = fh i) : Met l yX0_takeHand wsX0_takeHand rmX0_takeHand (wr_P D vwCl (tX cs) [.ref h] (wX h q cs fh n fb fl fg fr k) sz) (wr_Q D vwCl (tX cs) (wX h q cs fh n fb fl fg fr k) (wS h q cs (rn_tk fh n fb fl fg fr k).2) sz ((rn_tk fh n fb fl fg fr k).1)) 0 0 (va_A (wX h q cs fh n fb fl fg fr k) sz) := by
  refine wr_of (cc := cX0_takeHand) (maxL := 2) (ty := .int) (by decide) rfl rfl (Nat.le_of_ble_eq_true rfl) ?_
  intro p e s m args below meth c ls Q A hx hb hml hown hts hK hA hP hD hS hl hret
  have hown : s.vm.findClass RX0 = some m.cls := hown
  have hin : ∀ w ∈ wsX00, w ∈ wsX0_takeHand := by decide +kernel
  have hl : lv_has ls 2 [(0, .ref h)] := hl
  rcases rn_tk_c (fh := fh) (n := n) (fb := fb) (fl := fl) (fg := fg) (fr := fr) hk with ⟨j, hj, e1, e2⟩ | ⟨e1, hlt, e2⟩ | ⟨e1, hlt, e2⟩
  · rw [e2] at hret
    refine lv_aload_n hx hb dX0_takeHand_0 rfl (lv_at hl 0 rfl) ?_
    refine rd_call (ci := 0) (b := h) (As := []) (rest := []) ⟨hx, hb, hml, hown, hts⟩ (kX0_find l D h q cs fh n fb fl fg fr k (by omega) (by omega)) (cwV 0 hts gX0_takeHand_X0_find rfl rfl rfl (by decide +kernel) ⟨Nat.le_of_ble_eq_true rfl, Nat.le_of_ble_eq_true rfl⟩) hK hP rfl rfl rfl rfl hl.1 rfl (Nat.le_of_ble_eq_true rfl) dX0_takeHand_1 ⟨Nat.zero_le _, Nat.zero_le _⟩ ?_
    refine rb_top (y := nI j) e1 ?_
    refine lv_istore_n (lv' := [(1, .int (nI j)), (0, .ref h)]) hx hb dX0_takeHand_4 rfl hl (by decide) rfl (fun ls hl => ?_)
    refine lv_iload_n hx hb dX0_takeHand_5 rfl (lv_at hl 0 rfl) ?_
    refine lv_iconst (v := (-1)) hx hb dX0_takeHand_6 (by decide) ?_
    refine lv_icmp_ne (tgt := 15) hx hb dX0_takeHand_7 (by decide) (fun c0 => ?_) (fun c0 => ?_)
    · refine lv_aload_n hx hb dX0_takeHand_15 rfl (lv_at hl 1 rfl) ?_
      refine lv_iconst (v := nI 0) hx hb dX0_takeHand_16 (by decide) ?_
      refine va_put (D := D) (ci := 0) (v := .int (nI 0)) (ty := .int) (C := RX0) (T := TX0) (N := 7) hx hb hts hin tyX0 tyX0_ok nmX0 hown hK hP hD hS 0 rfl rfl 1 (by decide) (hts (.fieldLink RX0 13 "ReferredNames" "handLength" "I") (by decide +kernel)) (fun _ h9 => h9) rfl (by decide +kernel) rfl rfl (Nat.le_of_ble_eq_true rfl) dX0_takeHand_17 (fun H locs hP hD hS => ?_)
      have hP : va_P D vwCl (wX h q cs fh 0 fb fl fg fr k) H := hP
      have hD : va_D A (wX h q cs fh 0 fb fl fg fr k) := hD
      refine lv_iload_n hx hb dX0_takeHand_20 rfl (lv_at hl 0 rfl) ?_
      refine rb_top (y := nI j) rfl ?_
      exact hret _ _ _ _ dX0_takeHand_21 hP hD hS
    · exact absurd c0 (rn_m1 (by omega))
  · rw [e2] at hret
    refine lv_aload_n hx hb dX0_takeHand_0 rfl (lv_at hl 0 rfl) ?_
    refine rd_call (ci := 0) (b := h) (As := []) (rest := []) ⟨hx, hb, hml, hown, hts⟩ (kX0_find l D h q cs fh n fb fl fg fr k (by omega) (by omega)) (cwV 0 hts gX0_takeHand_X0_find rfl rfl rfl (by decide +kernel) ⟨Nat.le_of_ble_eq_true rfl, Nat.le_of_ble_eq_true rfl⟩) hK hP rfl rfl rfl rfl hl.1 rfl (Nat.le_of_ble_eq_true rfl) dX0_takeHand_1 ⟨Nat.zero_le _, Nat.zero_le _⟩ ?_
    refine rb_top (y := (-1)) e1 ?_
    refine lv_istore_n (lv' := [(1, .int ((-1))), (0, .ref h)]) hx hb dX0_takeHand_4 rfl hl (by decide) rfl (fun ls hl => ?_)
    refine lv_iload_n hx hb dX0_takeHand_5 rfl (lv_at hl 0 rfl) ?_
    refine lv_iconst (v := (-1)) hx hb dX0_takeHand_6 (by decide) ?_
    refine lv_icmp_ne (tgt := 15) hx hb dX0_takeHand_7 (by decide) (fun c0 => ?_) (fun c0 => ?_)
    · exact absurd rfl c0
    · refine lv_aload_n hx hb dX0_takeHand_10 rfl (lv_at hl 1 rfl) ?_
      have c9 := kX0_learnHand l D h q cs fh n fb fl fg fr k (by omega) (by omega) s.heap.size hby
      rw [rn_le_t hlt] at c9
      refine wr_call (ci := 0) (b := h) (As := []) (rest := []) (wr := []) ⟨hx, hb, hml, hown, hts⟩ (c9) (cwV 0 hts gX0_takeHand_X0_learnHand rfl rfl rfl (by decide +kernel) ⟨Nat.le_of_ble_eq_true rfl, Nat.le_of_ble_eq_true rfl⟩) hK hP hD hS hA [0, 1, 2, 3, 4, 5] [] rfl rfl (by decide) (by decide) (by decide) rfl rfl rfl rfl hl.1 rfl (Nat.le_of_ble_eq_true rfl) dX0_takeHand_11 ⟨Nat.le_of_ble_eq_true rfl, Nat.le_of_ble_eq_true rfl⟩ (fun H locs hP hD hS => ?_)
      have hP : va_P D vwCl (wX h q cs fh n (va_cpy fh fb 0 (k * 60) n) (upd fl k (nI n)) (upd fg k (nI 0)) (upd fr k (nI 0)) (k + 1)) H := hP
      have hD : va_D A (wX h q cs fh n (va_cpy fh fb 0 (k * 60) n) (upd fl k (nI n)) (upd fg k (nI 0)) (upd fr k (nI 0)) (k + 1)) := hD
      refine rb_top (y := nI k) rfl ?_
      refine lv_istore_n (lv' := [(1, .int (nI k)), (0, .ref h)]) hx hb dX0_takeHand_14 rfl hl (by decide) rfl (fun ls hl => ?_)
      refine lv_aload_n hx hb dX0_takeHand_15 rfl (lv_at hl 1 rfl) ?_
      refine lv_iconst (v := nI 0) hx hb dX0_takeHand_16 (by decide) ?_
      refine va_put (D := D) (ci := 0) (v := .int (nI 0)) (ty := .int) (C := RX0) (T := TX0) (N := 7) hx hb hts hin tyX0 tyX0_ok nmX0 hown hK hP hD hS 0 rfl rfl 1 (by decide) (hts (.fieldLink RX0 13 "ReferredNames" "handLength" "I") (by decide +kernel)) (fun _ h9 => h9) rfl (by decide +kernel) rfl rfl (Nat.le_of_ble_eq_true rfl) dX0_takeHand_17 (fun H locs hP hD hS => ?_)
      have hP : va_P D vwCl (wX h q cs fh 0 (va_cpy fh fb 0 (k * 60) n) (upd fl k (nI n)) (upd fg k (nI 0)) (upd fr k (nI 0)) (k + 1)) H := hP
      have hD : va_D A (wX h q cs fh 0 (va_cpy fh fb 0 (k * 60) n) (upd fl k (nI n)) (upd fg k (nI 0)) (upd fr k (nI 0)) (k + 1)) := hD
      refine lv_iload_n hx hb dX0_takeHand_20 rfl (lv_at hl 0 rfl) ?_
      refine rb_top (y := nI k) rfl ?_
      exact hret _ _ _ _ dX0_takeHand_21 hP hD hS
  · rw [e2] at hret
    refine lv_aload_n hx hb dX0_takeHand_0 rfl (lv_at hl 0 rfl) ?_
    refine rd_call (ci := 0) (b := h) (As := []) (rest := []) ⟨hx, hb, hml, hown, hts⟩ (kX0_find l D h q cs fh n fb fl fg fr k (by omega) (by omega)) (cwV 0 hts gX0_takeHand_X0_find rfl rfl rfl (by decide +kernel) ⟨Nat.le_of_ble_eq_true rfl, Nat.le_of_ble_eq_true rfl⟩) hK hP rfl rfl rfl rfl hl.1 rfl (Nat.le_of_ble_eq_true rfl) dX0_takeHand_1 ⟨Nat.zero_le _, Nat.zero_le _⟩ ?_
    refine rb_top (y := (-1)) e1 ?_
    refine lv_istore_n (lv' := [(1, .int ((-1))), (0, .ref h)]) hx hb dX0_takeHand_4 rfl hl (by decide) rfl (fun ls hl => ?_)
    refine lv_iload_n hx hb dX0_takeHand_5 rfl (lv_at hl 0 rfl) ?_
    refine lv_iconst (v := (-1)) hx hb dX0_takeHand_6 (by decide) ?_
    refine lv_icmp_ne (tgt := 15) hx hb dX0_takeHand_7 (by decide) (fun c0 => ?_) (fun c0 => ?_)
    · exact absurd rfl c0
    · refine lv_aload_n hx hb dX0_takeHand_10 rfl (lv_at hl 1 rfl) ?_
      have c9 := kX0_learnHand l D h q cs fh n fb fl fg fr k (by omega) (by omega) s.heap.size hby
      rw [rn_le_f hlt] at c9
      refine wr_call (ci := 0) (b := h) (As := []) (rest := []) (wr := []) ⟨hx, hb, hml, hown, hts⟩ (c9) (cwV 0 hts gX0_takeHand_X0_learnHand rfl rfl rfl (by decide +kernel) ⟨Nat.le_of_ble_eq_true rfl, Nat.le_of_ble_eq_true rfl⟩) hK hP hD hS hA [0, 1, 2, 3, 4, 5] [] rfl rfl (by decide) (by decide) (by decide) rfl rfl rfl rfl hl.1 rfl (Nat.le_of_ble_eq_true rfl) dX0_takeHand_11 ⟨Nat.le_of_ble_eq_true rfl, Nat.le_of_ble_eq_true rfl⟩ (fun H locs hP hD hS => ?_)
      have hP : va_P D vwCl (wX h q cs fh n fb fl fg fr k) H := hP
      have hD : va_D A (wX h q cs fh n fb fl fg fr k) := hD
      refine rb_top (y := (-2)) rfl ?_
      refine lv_istore_n (lv' := [(1, .int ((-2))), (0, .ref h)]) hx hb dX0_takeHand_14 rfl hl (by decide) rfl (fun ls hl => ?_)
      refine lv_aload_n hx hb dX0_takeHand_15 rfl (lv_at hl 1 rfl) ?_
      refine lv_iconst (v := nI 0) hx hb dX0_takeHand_16 (by decide) ?_
      refine va_put (D := D) (ci := 0) (v := .int (nI 0)) (ty := .int) (C := RX0) (T := TX0) (N := 7) hx hb hts hin tyX0 tyX0_ok nmX0 hown hK hP hD hS 0 rfl rfl 1 (by decide) (hts (.fieldLink RX0 13 "ReferredNames" "handLength" "I") (by decide +kernel)) (fun _ h9 => h9) rfl (by decide +kernel) rfl rfl (Nat.le_of_ble_eq_true rfl) dX0_takeHand_17 (fun H locs hP hD hS => ?_)
      have hP : va_P D vwCl (wX h q cs fh 0 fb fl fg fr k) H := hP
      have hD : va_D A (wX h q cs fh 0 fb fl fg fr k) := hD
      refine lv_iload_n hx hb dX0_takeHand_20 rfl (lv_at hl 0 rfl) ?_
      refine rb_top (y := (-2)) rfl ?_
      exact hret _ _ _ _ dX0_takeHand_21 hP hD hS
abbrev rmX0_give : Room := { frames := 3, cells := 0, slots := 0, locals := 64 }
set_option maxHeartbeats 4000000 in
set_option maxRecDepth 100000 in
theorem kX0_give (l : Launch) (D : va_G) (h : Nat) (q : Nat → Nat) (cs : Nat → ClassId) (fh : Nat → Int32) (n : Nat) (fb fl fg fr : Nat → Int32) (k : Nat) (hn : n ≤ 60) (hk : k ≤ 200) (sz : Nat) (hby : ∀ i, (fh i).toInt8.toInt32 = fh i) : Met l yX0_give wsX0_give rmX0_give (wr_P D vwCl (tX cs) [.ref h] (wX h q cs fh n fb fl fg fr k) sz) (wr_Q D vwCl (tX cs) (wX h q cs fh n fb fl fg fr k) (wS h q cs (rn_gv fh n fb fl fg fr k).2) sz ((rn_gv fh n fb fl fg fr k).1)) 0 0 (va_A (wX h q cs fh n fb fl fg fr k) sz) := by
  refine wr_of (cc := cX0_give) (maxL := 3) (ty := .int) (by decide) rfl rfl (Nat.le_of_ble_eq_true rfl) ?_
  intro p e s m args below meth c ls Q A hx hb hml hown hts hK hA hP hD hS hl hret
  have hown : s.vm.findClass RX0 = some m.cls := hown
  have hin : ∀ w ∈ wsX00, w ∈ wsX0_give := by decide +kernel
  have hl : lv_has ls 3 [(0, .ref h)] := hl
  refine lv_aload_n hx hb dX0_give_0 rfl (lv_at hl 0 rfl) ?_
  refine va_get (D := D) (ci := 0) (v := .int (nI n)) (C := RX0) (T := TX0) (N := 7) hx hb hts hin hown hK hP 0 rfl rfl 1 (by decide) (hts (.fieldLink RX0 13 "ReferredNames" "handLength" "I") (by decide +kernel)) (fun _ h9 => h9) rfl dX0_give_1 ?_
  refine lv_if_ne (tgt := 10) hx hb dX0_give_4 (by decide) (fun c0 => ?_) (fun c0 => ?_)
  · rw [show (0 : Int32) = nI 0 from rfl] at c0
    rw [nI_eq (by omega) (by omega)] at c0
    rw [rn_gv_p c0] at hret
    rcases rn_tk_c (fh := fh) (n := n) (fb := fb) (fl := fl) (fg := fg) (fr := fr) hk with ⟨j, hj, e1, e2⟩ | ⟨e1, hlt, e2⟩ | ⟨e1, hlt, e2⟩
    · rw [e2, rn_gs_j (by omega)] at hret
      refine lv_aload_n hx hb dX0_give_10 rfl (lv_at hl 0 rfl) ?_
      have c9 := kX0_takeHand l D h q cs fh n fb fl fg fr k (by omega) (by omega) s.heap.size hby
      rw [e2] at c9
      refine wr_call (ci := 0) (b := h) (As := []) (rest := []) (wr := []) ⟨hx, hb, hml, hown, hts⟩ (c9) (cwV 0 hts gX0_give_X0_takeHand rfl rfl rfl (by decide +kernel) ⟨Nat.le_of_ble_eq_true rfl, Nat.le_of_ble_eq_true rfl⟩) hK hP hD hS hA [0, 1, 2, 3, 4, 5] [] rfl rfl (by decide) (by decide) (by decide) rfl rfl rfl rfl hl.1 rfl (Nat.le_of_ble_eq_true rfl) dX0_give_11 ⟨Nat.le_of_ble_eq_true rfl, Nat.le_of_ble_eq_true rfl⟩ (fun H locs hP hD hS => ?_)
      have hP : va_P D vwCl (wX h q cs fh 0 fb fl fg fr k) H := hP
      have hD : va_D A (wX h q cs fh 0 fb fl fg fr k) := hD
      refine rb_top (y := nI j) rfl ?_
      refine lv_istore_n (lv' := [(1, .int (nI j)), (0, .ref h)]) hx hb dX0_give_14 rfl hl (by decide) rfl (fun ls hl => ?_)
      refine lv_iload_n hx hb dX0_give_15 rfl (lv_at hl 0 rfl) ?_
      refine lv_if_ge (tgt := 21) hx hb dX0_give_16 (by decide) (fun c1 => ?_) (fun c1 => ?_)
      · rw [show (0 : Int32) = nI 0 from rfl] at c1
        rw [nI_leI (by omega) (by omega)] at c1
        refine lv_aload_n hx hb dX0_give_21 rfl (lv_at hl 1 rfl) ?_
        refine lv_iload_n hx hb dX0_give_22 rfl (lv_at hl 0 rfl) ?_
        refine rd_call (ci := 0) (b := h) (As := [.int (nI j)]) (rest := []) ⟨hx, hb, hml, hown, hts⟩ (kX0_isGiven l D h q cs fh 0 fb fl fg fr k (by omega) (by omega) j (by omega)) (cwV 1 hts gX0_give_X0_isGiven rfl rfl rfl (by decide +kernel) ⟨Nat.le_of_ble_eq_true rfl, Nat.le_of_ble_eq_true rfl⟩) hK hP rfl rfl rfl rfl hl.1 rfl (Nat.le_of_ble_eq_true rfl) dX0_give_23 ⟨Nat.zero_le _, Nat.zero_le _⟩ ?_
        refine lv_istore_n (lv' := [(2, .int (rn_b (rn_gi fg j))), (1, .int (nI j)), (0, .ref h)]) hx hb dX0_give_26 rfl hl (by decide) rfl (fun ls hl => ?_)
        refine lv_aload_n hx hb dX0_give_27 rfl (lv_at hl 2 rfl) ?_
        refine va_get (D := D) (ci := 0) (v := .ref (q 4)) (C := RX0) (T := TX0) (N := 7) hx hb hts hin hown hK hP 0 rfl rfl 4 (by decide) (hts (.fieldLink RX0 24 "ReferredNames" "givings" "[I") (by decide +kernel)) (fun _ h9 => h9) rfl dX0_give_28 ?_
        refine lv_iload_n hx hb dX0_give_31 rfl (lv_at hl 1 rfl) ?_
        refine lv_dup2_11 hx hb dX0_give_32 rfl rfl ?_
        refine rb_ild hx hb hK hP 4 3 rfl rfl (i := j) (by omega) (by decide) dX0_give_33 ?_
        refine lv_iconst (v := nI 1) hx hb dX0_give_34 (by decide) ?_
        refine lv_iadd hx hb dX0_give_35 ?_
        refine rb_ist hx hb hK hP hD hS 4 3 rfl rfl (i := j) (by omega) (by decide) dX0_give_36 (fun H locs hP hD hS => ?_)
        have hP : va_P D vwCl (wX h q cs fh 0 fb fl (upd fg j ((fg j) + (nI 1))) fr k) H := hP
        have hD : va_D A (wX h q cs fh 0 fb fl (upd fg j ((fg j) + (nI 1))) fr k) := hD
        refine lv_iload_n hx hb dX0_give_37 rfl (lv_at hl 0 rfl) ?_
        refine lv_if_eq (tgt := 45) hx hb dX0_give_38 (by decide) (fun c2 => ?_) (fun c2 => ?_)
        · refine lv_iload_n hx hb dX0_give_45 rfl (lv_at hl 1 rfl) ?_
          refine rb_top (y := (if rn_gi fg j = true then -1 else nI j)) ((if_neg (by rw [rn_b_eq c2]; decide)).symm) ?_
          exact hret _ _ _ _ dX0_give_46 hP hD hS
        · refine lv_iconst (v := (-1)) hx hb dX0_give_41 (by decide) ?_
          refine lv_goto (tgt := 46) hx hb dX0_give_42 (by decide) ?_
          refine rb_top (y := (if rn_gi fg j = true then -1 else nI j)) ((if_pos (rn_b_ne c2)).symm) ?_
          exact hret _ _ _ _ dX0_give_46 hP hD hS
      · rw [show (0 : Int32) = nI 0 from rfl] at c1
        rw [nI_leI (by omega) (by omega)] at c1
        exfalso; omega
    · rw [e2, rn_gs_j (by omega)] at hret
      refine lv_aload_n hx hb dX0_give_10 rfl (lv_at hl 0 rfl) ?_
      have c9 := kX0_takeHand l D h q cs fh n fb fl fg fr k (by omega) (by omega) s.heap.size hby
      rw [e2] at c9
      refine wr_call (ci := 0) (b := h) (As := []) (rest := []) (wr := []) ⟨hx, hb, hml, hown, hts⟩ (c9) (cwV 0 hts gX0_give_X0_takeHand rfl rfl rfl (by decide +kernel) ⟨Nat.le_of_ble_eq_true rfl, Nat.le_of_ble_eq_true rfl⟩) hK hP hD hS hA [0, 1, 2, 3, 4, 5] [] rfl rfl (by decide) (by decide) (by decide) rfl rfl rfl rfl hl.1 rfl (Nat.le_of_ble_eq_true rfl) dX0_give_11 ⟨Nat.le_of_ble_eq_true rfl, Nat.le_of_ble_eq_true rfl⟩ (fun H locs hP hD hS => ?_)
      have hP : va_P D vwCl (wX h q cs fh 0 (va_cpy fh fb 0 (k * 60) n) (upd fl k (nI n)) (upd fg k (nI 0)) (upd fr k (nI 0)) (k + 1)) H := hP
      have hD : va_D A (wX h q cs fh 0 (va_cpy fh fb 0 (k * 60) n) (upd fl k (nI n)) (upd fg k (nI 0)) (upd fr k (nI 0)) (k + 1)) := hD
      refine rb_top (y := nI k) rfl ?_
      refine lv_istore_n (lv' := [(1, .int (nI k)), (0, .ref h)]) hx hb dX0_give_14 rfl hl (by decide) rfl (fun ls hl => ?_)
      refine lv_iload_n hx hb dX0_give_15 rfl (lv_at hl 0 rfl) ?_
      refine lv_if_ge (tgt := 21) hx hb dX0_give_16 (by decide) (fun c1 => ?_) (fun c1 => ?_)
      · rw [show (0 : Int32) = nI 0 from rfl] at c1
        rw [nI_leI (by omega) (by omega)] at c1
        refine lv_aload_n hx hb dX0_give_21 rfl (lv_at hl 1 rfl) ?_
        refine lv_iload_n hx hb dX0_give_22 rfl (lv_at hl 0 rfl) ?_
        refine rd_call (ci := 0) (b := h) (As := [.int (nI k)]) (rest := []) ⟨hx, hb, hml, hown, hts⟩ (kX0_isGiven l D h q cs fh 0 (va_cpy fh fb 0 (k * 60) n) (upd fl k (nI n)) (upd fg k (nI 0)) (upd fr k (nI 0)) (k + 1) (by omega) (by omega) k (by omega)) (cwV 1 hts gX0_give_X0_isGiven rfl rfl rfl (by decide +kernel) ⟨Nat.le_of_ble_eq_true rfl, Nat.le_of_ble_eq_true rfl⟩) hK hP rfl rfl rfl rfl hl.1 rfl (Nat.le_of_ble_eq_true rfl) dX0_give_23 ⟨Nat.zero_le _, Nat.zero_le _⟩ ?_
        refine lv_istore_n (lv' := [(2, .int (rn_b (rn_gi (upd fg k (nI 0)) k))), (1, .int (nI k)), (0, .ref h)]) hx hb dX0_give_26 rfl hl (by decide) rfl (fun ls hl => ?_)
        refine lv_aload_n hx hb dX0_give_27 rfl (lv_at hl 2 rfl) ?_
        refine va_get (D := D) (ci := 0) (v := .ref (q 4)) (C := RX0) (T := TX0) (N := 7) hx hb hts hin hown hK hP 0 rfl rfl 4 (by decide) (hts (.fieldLink RX0 24 "ReferredNames" "givings" "[I") (by decide +kernel)) (fun _ h9 => h9) rfl dX0_give_28 ?_
        refine lv_iload_n hx hb dX0_give_31 rfl (lv_at hl 1 rfl) ?_
        refine lv_dup2_11 hx hb dX0_give_32 rfl rfl ?_
        refine rb_ild hx hb hK hP 4 3 rfl rfl (i := k) (by omega) (by decide) dX0_give_33 ?_
        refine lv_iconst (v := nI 1) hx hb dX0_give_34 (by decide) ?_
        refine lv_iadd hx hb dX0_give_35 ?_
        refine rb_ist hx hb hK hP hD hS 4 3 rfl rfl (i := k) (by omega) (by decide) dX0_give_36 (fun H locs hP hD hS => ?_)
        have hP : va_P D vwCl (wX h q cs fh 0 (va_cpy fh fb 0 (k * 60) n) (upd fl k (nI n)) (upd (upd fg k (nI 0)) k (((upd fg k (nI 0)) k) + (nI 1))) (upd fr k (nI 0)) (k + 1)) H := hP
        have hD : va_D A (wX h q cs fh 0 (va_cpy fh fb 0 (k * 60) n) (upd fl k (nI n)) (upd (upd fg k (nI 0)) k (((upd fg k (nI 0)) k) + (nI 1))) (upd fr k (nI 0)) (k + 1)) := hD
        refine lv_iload_n hx hb dX0_give_37 rfl (lv_at hl 0 rfl) ?_
        refine lv_if_eq (tgt := 45) hx hb dX0_give_38 (by decide) (fun c2 => ?_) (fun c2 => ?_)
        · refine lv_iload_n hx hb dX0_give_45 rfl (lv_at hl 1 rfl) ?_
          refine rb_top (y := (if rn_gi (upd fg k (nI 0)) k = true then -1 else nI k)) ((if_neg (by rw [rn_b_eq c2]; decide)).symm) ?_
          exact hret _ _ _ _ dX0_give_46 hP hD hS
        · refine lv_iconst (v := (-1)) hx hb dX0_give_41 (by decide) ?_
          refine lv_goto (tgt := 46) hx hb dX0_give_42 (by decide) ?_
          refine rb_top (y := (if rn_gi (upd fg k (nI 0)) k = true then -1 else nI k)) ((if_pos (rn_b_ne c2)).symm) ?_
          exact hret _ _ _ _ dX0_give_46 hP hD hS
      · rw [show (0 : Int32) = nI 0 from rfl] at c1
        rw [nI_leI (by omega) (by omega)] at c1
        exfalso; omega
    · rw [e2, rn_gs_n] at hret
      refine lv_aload_n hx hb dX0_give_10 rfl (lv_at hl 0 rfl) ?_
      have c9 := kX0_takeHand l D h q cs fh n fb fl fg fr k (by omega) (by omega) s.heap.size hby
      rw [e2] at c9
      refine wr_call (ci := 0) (b := h) (As := []) (rest := []) (wr := []) ⟨hx, hb, hml, hown, hts⟩ (c9) (cwV 0 hts gX0_give_X0_takeHand rfl rfl rfl (by decide +kernel) ⟨Nat.le_of_ble_eq_true rfl, Nat.le_of_ble_eq_true rfl⟩) hK hP hD hS hA [0, 1, 2, 3, 4, 5] [] rfl rfl (by decide) (by decide) (by decide) rfl rfl rfl rfl hl.1 rfl (Nat.le_of_ble_eq_true rfl) dX0_give_11 ⟨Nat.le_of_ble_eq_true rfl, Nat.le_of_ble_eq_true rfl⟩ (fun H locs hP hD hS => ?_)
      have hP : va_P D vwCl (wX h q cs fh 0 fb fl fg fr k) H := hP
      have hD : va_D A (wX h q cs fh 0 fb fl fg fr k) := hD
      refine rb_top (y := (-2)) rfl ?_
      refine lv_istore_n (lv' := [(1, .int ((-2))), (0, .ref h)]) hx hb dX0_give_14 rfl hl (by decide) rfl (fun ls hl => ?_)
      refine lv_iload_n hx hb dX0_give_15 rfl (lv_at hl 0 rfl) ?_
      refine lv_if_ge (tgt := 21) hx hb dX0_give_16 (by decide) (fun c1 => ?_) (fun c1 => ?_)
      · exact absurd c1 (by decide)
      · refine lv_iload_n hx hb dX0_give_19 rfl (lv_at hl 0 rfl) ?_
        refine rb_top (y := (-2)) rfl ?_
        exact hret _ _ _ _ dX0_give_20 hP hD hS
  · rw [show (0 : Int32) = nI 0 from rfl] at c0
    rw [nI_eq (by omega) (by omega)] at c0
    rw [rn_gv_0 c0] at hret
    refine lv_bipush (v := (-3)) hx hb dX0_give_7 (by decide) ?_
    refine rb_top (y := (-3)) rfl ?_
    exact hret _ _ _ _ dX0_give_9 hP hD hS
abbrev rmX0_refer : Room := { frames := 3, cells := 0, slots := 0, locals := 64 }
set_option maxHeartbeats 4000000 in
set_option maxRecDepth 100000 in
theorem kX0_refer (l : Launch) (D : va_G) (h : Nat) (q : Nat → Nat) (cs : Nat → ClassId) (fh : Nat → Int32) (n : Nat) (fb fl fg fr : Nat → Int32) (k : Nat) (hn : n ≤ 60) (hk : k ≤ 200) (sz : Nat) (hby : ∀ i, (fh i).toInt8.toInt32 = fh i) : Met l yX0_refer wsX0_refer rmX0_refer (wr_P D vwCl (tX cs) [.ref h] (wX h q cs fh n fb fl fg fr k) sz) (wr_Q D vwCl (tX cs) (wX h q cs fh n fb fl fg fr k) (wS h q cs (rn_rf fh n fb fl fg fr k).2) sz ((rn_rf fh n fb fl fg fr k).1)) 0 0 (va_A (wX h q cs fh n fb fl fg fr k) sz) := by
  refine wr_of (cc := cX0_refer) (maxL := 2) (ty := .int) (by decide) rfl rfl (Nat.le_of_ble_eq_true rfl) ?_
  intro p e s m args below meth c ls Q A hx hb hml hown hts hK hA hP hD hS hl hret
  have hown : s.vm.findClass RX0 = some m.cls := hown
  have hin : ∀ w ∈ wsX00, w ∈ wsX0_refer := by decide +kernel
  have hl : lv_has ls 2 [(0, .ref h)] := hl
  refine lv_aload_n hx hb dX0_refer_0 rfl (lv_at hl 0 rfl) ?_
  refine va_get (D := D) (ci := 0) (v := .int (nI n)) (C := RX0) (T := TX0) (N := 7) hx hb hts hin hown hK hP 0 rfl rfl 1 (by decide) (hts (.fieldLink RX0 13 "ReferredNames" "handLength" "I") (by decide +kernel)) (fun _ h9 => h9) rfl dX0_refer_1 ?_
  refine lv_if_ne (tgt := 10) hx hb dX0_refer_4 (by decide) (fun c0 => ?_) (fun c0 => ?_)
  · rw [show (0 : Int32) = nI 0 from rfl] at c0
    rw [nI_eq (by omega) (by omega)] at c0
    rw [rn_rf_p c0] at hret
    rcases rn_tk_c (fh := fh) (n := n) (fb := fb) (fl := fl) (fg := fg) (fr := fr) hk with ⟨j, hj, e1, e2⟩ | ⟨e1, hlt, e2⟩ | ⟨e1, hlt, e2⟩
    · rw [e2, rn_rs_j (by omega)] at hret
      refine lv_aload_n hx hb dX0_refer_10 rfl (lv_at hl 0 rfl) ?_
      have c9 := kX0_takeHand l D h q cs fh n fb fl fg fr k (by omega) (by omega) s.heap.size hby
      rw [e2] at c9
      refine wr_call (ci := 0) (b := h) (As := []) (rest := []) (wr := []) ⟨hx, hb, hml, hown, hts⟩ (c9) (cwV 0 hts gX0_refer_X0_takeHand rfl rfl rfl (by decide +kernel) ⟨Nat.le_of_ble_eq_true rfl, Nat.le_of_ble_eq_true rfl⟩) hK hP hD hS hA [0, 1, 2, 3, 4, 5] [] rfl rfl (by decide) (by decide) (by decide) rfl rfl rfl rfl hl.1 rfl (Nat.le_of_ble_eq_true rfl) dX0_refer_11 ⟨Nat.le_of_ble_eq_true rfl, Nat.le_of_ble_eq_true rfl⟩ (fun H locs hP hD hS => ?_)
      have hP : va_P D vwCl (wX h q cs fh 0 fb fl fg fr k) H := hP
      have hD : va_D A (wX h q cs fh 0 fb fl fg fr k) := hD
      refine rb_top (y := nI j) rfl ?_
      refine lv_istore_n (lv' := [(1, .int (nI j)), (0, .ref h)]) hx hb dX0_refer_14 rfl hl (by decide) rfl (fun ls hl => ?_)
      refine lv_iload_n hx hb dX0_refer_15 rfl (lv_at hl 0 rfl) ?_
      refine lv_if_ge (tgt := 21) hx hb dX0_refer_16 (by decide) (fun c1 => ?_) (fun c1 => ?_)
      · rw [show (0 : Int32) = nI 0 from rfl] at c1
        rw [nI_leI (by omega) (by omega)] at c1
        refine lv_aload_n hx hb dX0_refer_21 rfl (lv_at hl 1 rfl) ?_
        refine va_get (D := D) (ci := 0) (v := .ref (q 5)) (C := RX0) (T := TX0) (N := 7) hx hb hts hin hown hK hP 0 rfl rfl 5 (by decide) (hts (.fieldLink RX0 27 "ReferredNames" "referrals" "[I") (by decide +kernel)) (fun _ h9 => h9) rfl dX0_refer_22 ?_
        refine lv_iload_n hx hb dX0_refer_25 rfl (lv_at hl 0 rfl) ?_
        refine lv_dup2_11 hx hb dX0_refer_26 rfl rfl ?_
        refine rb_ild hx hb hK hP 5 4 rfl rfl (i := j) (by omega) (by decide) dX0_refer_27 ?_
        refine lv_iconst (v := nI 1) hx hb dX0_refer_28 (by decide) ?_
        refine lv_iadd hx hb dX0_refer_29 ?_
        refine rb_ist hx hb hK hP hD hS 5 4 rfl rfl (i := j) (by omega) (by decide) dX0_refer_30 (fun H locs hP hD hS => ?_)
        have hP : va_P D vwCl (wX h q cs fh 0 fb fl fg (upd fr j ((fr j) + (nI 1))) k) H := hP
        have hD : va_D A (wX h q cs fh 0 fb fl fg (upd fr j ((fr j) + (nI 1))) k) := hD
        refine lv_iload_n hx hb dX0_refer_31 rfl (lv_at hl 0 rfl) ?_
        refine rb_top (y := nI j) rfl ?_
        exact hret _ _ _ _ dX0_refer_32 hP hD hS
      · rw [show (0 : Int32) = nI 0 from rfl] at c1
        rw [nI_leI (by omega) (by omega)] at c1
        exfalso; omega
    · rw [e2, rn_rs_j (by omega)] at hret
      refine lv_aload_n hx hb dX0_refer_10 rfl (lv_at hl 0 rfl) ?_
      have c9 := kX0_takeHand l D h q cs fh n fb fl fg fr k (by omega) (by omega) s.heap.size hby
      rw [e2] at c9
      refine wr_call (ci := 0) (b := h) (As := []) (rest := []) (wr := []) ⟨hx, hb, hml, hown, hts⟩ (c9) (cwV 0 hts gX0_refer_X0_takeHand rfl rfl rfl (by decide +kernel) ⟨Nat.le_of_ble_eq_true rfl, Nat.le_of_ble_eq_true rfl⟩) hK hP hD hS hA [0, 1, 2, 3, 4, 5] [] rfl rfl (by decide) (by decide) (by decide) rfl rfl rfl rfl hl.1 rfl (Nat.le_of_ble_eq_true rfl) dX0_refer_11 ⟨Nat.le_of_ble_eq_true rfl, Nat.le_of_ble_eq_true rfl⟩ (fun H locs hP hD hS => ?_)
      have hP : va_P D vwCl (wX h q cs fh 0 (va_cpy fh fb 0 (k * 60) n) (upd fl k (nI n)) (upd fg k (nI 0)) (upd fr k (nI 0)) (k + 1)) H := hP
      have hD : va_D A (wX h q cs fh 0 (va_cpy fh fb 0 (k * 60) n) (upd fl k (nI n)) (upd fg k (nI 0)) (upd fr k (nI 0)) (k + 1)) := hD
      refine rb_top (y := nI k) rfl ?_
      refine lv_istore_n (lv' := [(1, .int (nI k)), (0, .ref h)]) hx hb dX0_refer_14 rfl hl (by decide) rfl (fun ls hl => ?_)
      refine lv_iload_n hx hb dX0_refer_15 rfl (lv_at hl 0 rfl) ?_
      refine lv_if_ge (tgt := 21) hx hb dX0_refer_16 (by decide) (fun c1 => ?_) (fun c1 => ?_)
      · rw [show (0 : Int32) = nI 0 from rfl] at c1
        rw [nI_leI (by omega) (by omega)] at c1
        refine lv_aload_n hx hb dX0_refer_21 rfl (lv_at hl 1 rfl) ?_
        refine va_get (D := D) (ci := 0) (v := .ref (q 5)) (C := RX0) (T := TX0) (N := 7) hx hb hts hin hown hK hP 0 rfl rfl 5 (by decide) (hts (.fieldLink RX0 27 "ReferredNames" "referrals" "[I") (by decide +kernel)) (fun _ h9 => h9) rfl dX0_refer_22 ?_
        refine lv_iload_n hx hb dX0_refer_25 rfl (lv_at hl 0 rfl) ?_
        refine lv_dup2_11 hx hb dX0_refer_26 rfl rfl ?_
        refine rb_ild hx hb hK hP 5 4 rfl rfl (i := k) (by omega) (by decide) dX0_refer_27 ?_
        refine lv_iconst (v := nI 1) hx hb dX0_refer_28 (by decide) ?_
        refine lv_iadd hx hb dX0_refer_29 ?_
        refine rb_ist hx hb hK hP hD hS 5 4 rfl rfl (i := k) (by omega) (by decide) dX0_refer_30 (fun H locs hP hD hS => ?_)
        have hP : va_P D vwCl (wX h q cs fh 0 (va_cpy fh fb 0 (k * 60) n) (upd fl k (nI n)) (upd fg k (nI 0)) (upd (upd fr k (nI 0)) k (((upd fr k (nI 0)) k) + (nI 1))) (k + 1)) H := hP
        have hD : va_D A (wX h q cs fh 0 (va_cpy fh fb 0 (k * 60) n) (upd fl k (nI n)) (upd fg k (nI 0)) (upd (upd fr k (nI 0)) k (((upd fr k (nI 0)) k) + (nI 1))) (k + 1)) := hD
        refine lv_iload_n hx hb dX0_refer_31 rfl (lv_at hl 0 rfl) ?_
        refine rb_top (y := nI k) rfl ?_
        exact hret _ _ _ _ dX0_refer_32 hP hD hS
      · rw [show (0 : Int32) = nI 0 from rfl] at c1
        rw [nI_leI (by omega) (by omega)] at c1
        exfalso; omega
    · rw [e2, rn_rs_n] at hret
      refine lv_aload_n hx hb dX0_refer_10 rfl (lv_at hl 0 rfl) ?_
      have c9 := kX0_takeHand l D h q cs fh n fb fl fg fr k (by omega) (by omega) s.heap.size hby
      rw [e2] at c9
      refine wr_call (ci := 0) (b := h) (As := []) (rest := []) (wr := []) ⟨hx, hb, hml, hown, hts⟩ (c9) (cwV 0 hts gX0_refer_X0_takeHand rfl rfl rfl (by decide +kernel) ⟨Nat.le_of_ble_eq_true rfl, Nat.le_of_ble_eq_true rfl⟩) hK hP hD hS hA [0, 1, 2, 3, 4, 5] [] rfl rfl (by decide) (by decide) (by decide) rfl rfl rfl rfl hl.1 rfl (Nat.le_of_ble_eq_true rfl) dX0_refer_11 ⟨Nat.le_of_ble_eq_true rfl, Nat.le_of_ble_eq_true rfl⟩ (fun H locs hP hD hS => ?_)
      have hP : va_P D vwCl (wX h q cs fh 0 fb fl fg fr k) H := hP
      have hD : va_D A (wX h q cs fh 0 fb fl fg fr k) := hD
      refine rb_top (y := (-2)) rfl ?_
      refine lv_istore_n (lv' := [(1, .int ((-2))), (0, .ref h)]) hx hb dX0_refer_14 rfl hl (by decide) rfl (fun ls hl => ?_)
      refine lv_iload_n hx hb dX0_refer_15 rfl (lv_at hl 0 rfl) ?_
      refine lv_if_ge (tgt := 21) hx hb dX0_refer_16 (by decide) (fun c1 => ?_) (fun c1 => ?_)
      · exact absurd c1 (by decide)
      · refine lv_iload_n hx hb dX0_refer_19 rfl (lv_at hl 0 rfl) ?_
        refine rb_top (y := (-2)) rfl ?_
        exact hret _ _ _ _ dX0_refer_20 hP hD hS
  · rw [show (0 : Int32) = nI 0 from rfl] at c0
    rw [nI_eq (by omega) (by omega)] at c0
    rw [rn_rf_0 c0] at hret
    refine lv_bipush (v := (-3)) hx hb dX0_refer_7 (by decide) ?_
    refine rb_top (y := (-3)) rfl ?_
    exact hret _ _ _ _ dX0_refer_9 hP hD hS
abbrev rmX0_clear : Room := { frames := 0, cells := 0, slots := 0, locals := 0 }
set_option maxHeartbeats 4000000 in
set_option maxRecDepth 100000 in
theorem kX0_clear (l : Launch) (D : va_G) (h : Nat) (q : Nat → Nat) (cs : Nat → ClassId) (fh : Nat → Int32) (n : Nat) (fb fl fg fr : Nat → Int32) (k : Nat) (hn : n ≤ 60) (hk : k ≤ 200) (sz : Nat) : Met l yX0_clear wsX0_clear rmX0_clear (wr_P D vwCl (tX cs) [.ref h] (wX h q cs fh n fb fl fg fr k) sz) (wr_Q D vwCl (tX cs) (wX h q cs fh n fb fl fg fr k) (wX h q cs fh 0 fb fl fg fr 0) sz (nI k)) 0 0 (va_A (wX h q cs fh n fb fl fg fr k) sz) := by
  refine wr_of (cc := cX0_clear) (maxL := 2) (ty := .int) (by decide) rfl rfl (Nat.le_of_ble_eq_true rfl) ?_
  intro p e s m args below meth c ls Q A hx hb hml hown hts hK hA hP hD hS hl hret
  have hown : s.vm.findClass RX0 = some m.cls := hown
  have hin : ∀ w ∈ wsX00, w ∈ wsX0_clear := by decide +kernel
  have hl : lv_has ls 2 [(0, .ref h)] := hl
  refine lv_aload_n hx hb dX0_clear_0 rfl (lv_at hl 0 rfl) ?_
  refine va_get (D := D) (ci := 0) (v := .int (nI k)) (C := RX0) (T := TX0) (N := 7) hx hb hts hin hown hK hP 0 rfl rfl 6 (by decide) (hts (.fieldLink RX0 30 "ReferredNames" "known" "I") (by decide +kernel)) (fun _ h9 => h9) rfl dX0_clear_1 ?_
  refine lv_istore_n (lv' := [(1, .int (nI k)), (0, .ref h)]) hx hb dX0_clear_4 rfl hl (by decide) rfl (fun ls hl => ?_)
  refine lv_aload_n hx hb dX0_clear_5 rfl (lv_at hl 1 rfl) ?_
  refine lv_iconst (v := nI 0) hx hb dX0_clear_6 (by decide) ?_
  refine va_put (D := D) (ci := 0) (v := .int (nI 0)) (ty := .int) (C := RX0) (T := TX0) (N := 7) hx hb hts hin tyX0 tyX0_ok nmX0 hown hK hP hD hS 0 rfl rfl 6 (by decide) (hts (.fieldLink RX0 30 "ReferredNames" "known" "I") (by decide +kernel)) (fun _ h9 => h9) rfl (by decide +kernel) rfl rfl (Nat.le_of_ble_eq_true rfl) dX0_clear_7 (fun H locs hP hD hS => ?_)
  have hP : va_P D vwCl (wX h q cs fh n fb fl fg fr 0) H := hP
  have hD : va_D A (wX h q cs fh n fb fl fg fr 0) := hD
  refine lv_aload_n hx hb dX0_clear_10 rfl (lv_at hl 1 rfl) ?_
  refine lv_iconst (v := nI 0) hx hb dX0_clear_11 (by decide) ?_
  refine va_put (D := D) (ci := 0) (v := .int (nI 0)) (ty := .int) (C := RX0) (T := TX0) (N := 7) hx hb hts hin tyX0 tyX0_ok nmX0 hown hK hP hD hS 0 rfl rfl 1 (by decide) (hts (.fieldLink RX0 13 "ReferredNames" "handLength" "I") (by decide +kernel)) (fun _ h9 => h9) rfl (by decide +kernel) rfl rfl (Nat.le_of_ble_eq_true rfl) dX0_clear_12 (fun H locs hP hD hS => ?_)
  have hP : va_P D vwCl (wX h q cs fh 0 fb fl fg fr 0) H := hP
  have hD : va_D A (wX h q cs fh 0 fb fl fg fr 0) := hD
  refine lv_iload_n hx hb dX0_clear_15 rfl (lv_at hl 0 rfl) ?_
  refine rb_top (y := nI k) rfl ?_
  exact hret _ _ _ _ dX0_clear_16 hP hD hS
