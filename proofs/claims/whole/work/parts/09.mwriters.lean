theorem rn_gi_1 {fg : Nat → Int32} {j : Nat} (h : ¬ upd fg j (fg j + nI 1) j = nI 1) : rn_gi fg j = true := by
  refine decide_eq_true (p := ¬ fg j = 0) (fun q => h ?_)
  rw [pk_us, q]; decide
theorem rn_gi_0 {fg : Nat → Int32} {j : Nat} (h : upd fg j (fg j + nI 1) j = nI 1) : ¬ rn_gi fg j = true := by
  rw [pk_us] at h
  intro q
  exact of_decide_eq_true (p := ¬ fg j = 0) q (rn_gi1 h)
abbrev rmX1_put : Room := { frames := 0, cells := 0, slots := 0, locals := 0 }
set_option maxHeartbeats 4000000 in
set_option maxRecDepth 100000 in
theorem kX1_put (l : Launch) (D : va_G) (h : Nat) (q : Nat → Nat) (cs : Nat → ClassId) (fh : Nat → Int32) (n : Nat) (fb fl fg fr : Nat → Int32) (k : Nat) (hn : n ≤ 60) (hk : k ≤ 200) (v : Int64) (ct : Int32) (sz : Nat) : Met l yX1_put wsX1_put rmX1_put (wr_P D vwCl (tM cs) [.ref h, .long v, .int ct] (wM h q cs fh n fb fl fg fr k) sz) (wr_Q D vwCl (tM cs) (wM h q cs fh n fb fl fg fr k) (wN h q cs (rn_pt v ct fh n fb fl fg fr k).2) sz ((rn_pt v ct fh n fb fl fg fr k).1)) 0 0 (va_A (wM h q cs fh n fb fl fg fr k) sz) := by
  refine wr_of (cc := cX1_put) (maxL := 8) (ty := .boolean) (by decide) rfl rn_pt_nar (Nat.le_of_ble_eq_true rfl) ?_
  intro p e s m args below meth c ls Q A hx hb hml hown hts hK hA hP hD hS hl hret
  have hown : s.vm.findClass RX1 = some m.cls := hown
  have hin : ∀ w ∈ wsX10, w ∈ wsX1_put := by decide +kernel
  have hl : lv_has ls 8 [(0, .ref h), (1, .long v), (3, .int ct)] := hl
  refine lv_iload_n hx hb dX1_put_0 rfl (lv_at hl 2 rfl) ?_
  refine lv_iconst (v := nI 1) hx hb dX1_put_1 (by decide) ?_
  refine lv_icmp_lt (tgt := 22) hx hb dX1_put_2 (by decide) (fun c0 => ?_) (fun c0 => ?_)
  · rw [rn_pt_f (Or.inl c0)] at hret
    refine lv_iconst (v := nI 0) hx hb dX1_put_22 (by decide) ?_
    refine rb_top (y := nI 0) rfl ?_
    exact hret _ _ _ _ dX1_put_23 hP hD hS
  · refine lv_iload_n hx hb dX1_put_5 rfl (lv_at hl 2 rfl) ?_
    refine lv_bipush (v := nI 8) hx hb dX1_put_6 (by decide) ?_
    refine lv_icmp_gt (tgt := 22) hx hb dX1_put_8 (by decide) (fun c1 => ?_) (fun c1 => ?_)
    · rw [rn_pt_f (Or.inr (Or.inl c1))] at hret
      refine lv_iconst (v := nI 0) hx hb dX1_put_22 (by decide) ?_
      refine rb_top (y := nI 0) rfl ?_
      exact hret _ _ _ _ dX1_put_23 hP hD hS
    · obtain ⟨cN, h1c, h8c, rfl⟩ := rn_c2 c0 c1
      refine lv_aload_n hx hb dX1_put_11 rfl (lv_at hl 0 rfl) ?_
      refine va_get (D := D) (ci := 1) (v := .int (nI n)) (C := RX1) (T := TX1) (N := 7) hx hb hts hin hown hK hP 0 rfl rfl 1 (by decide) (hts (.fieldLink RX1 25 "ReferredNamesModel" "inHand" "I") (by decide +kernel)) (fun _ h9 => h9) rfl dX1_put_12 ?_
      refine lv_iload_n hx hb dX1_put_15 rfl (lv_at hl 2 rfl) ?_
      refine lv_iadd hx hb dX1_put_16 ?_
      refine rb_top (y := nI (n + cN)) (nI_add n cN) ?_
      refine lv_bipush (v := nI 60) hx hb dX1_put_17 (by decide) ?_
      refine lv_icmp_le (tgt := 24) hx hb dX1_put_19 (by decide) (fun c2 => ?_) (fun c2 => ?_)
      · rw [nI_leI (by omega) (by omega)] at c2
        rw [rn_pt_t h1c h8c (by omega)] at hret
        refine lv_iconst (v := nI 0) hx hb dX1_put_24 (by decide) ?_
        refine lv_istore (lv' := [(4, .int (nI 0)), (0, .ref h), (1, .long v), (3, .int (nI cN))]) hx hb dX1_put_25 hl (by decide) rfl (fun ls hl => ?_)
        have inner : ∀ (f : Nat) (i kk : Nat) (x9 : Int64) (H9 : Heap) (locs9 : List Loc) (ls : Array Slot), i + f = cN → kk + 1 ≤ i → x9 = rn_sh v (i - (kk + 1)) → (∀ ls : Array Slot, lv_has ls 8 [(0, .ref h), (1, .long v), (3, .int (nI cN)), (4, .int (nI kk)), (5, .long (rn_sh v (cN - (kk + 1))))] → W p l e rmX1_put s m args below meth c H9 locs9 0 0 Q (F0 m 61 ls [])) → lv_has ls 8 [(0, .ref h), (1, .long v), (3, .int (nI cN)), (4, .int (nI kk)), (5, .long x9), (7, .int (nI i))] → W p l e rmX1_put s m args below meth c H9 locs9 0 0 Q (F0 m 42 ls []) := by
          intro f
          induction f with
          | zero =>
            intro i kk x9 H9 locs9 ls hi hik hx9 hc hl
            refine lv_iload hx hb dX1_put_42 (lv_at hl 5 rfl) ?_
            refine lv_iload_n hx hb dX1_put_44 rfl (lv_at hl 2 rfl) ?_
            refine lv_icmp_ge (tgt := 61) hx hb dX1_put_45 (by decide) (fun c4 => ?_) (fun c4 => ?_)
            · rw [nI_leI (by omega) (by omega)] at c4
              have ei : i = cN := by omega
              rw [hx9, ei] at hl
              exact hc ls (lv_sub hl [0, 1, 2, 3, 4] rfl)
            · rw [nI_leI (by omega) (by omega)] at c4
              exfalso; omega
          | succ f ih =>
            intro i kk x9 H9 locs9 ls hi hik hx9 hc hl
            refine lv_iload hx hb dX1_put_42 (lv_at hl 5 rfl) ?_
            refine lv_iload_n hx hb dX1_put_44 rfl (lv_at hl 2 rfl) ?_
            refine lv_icmp_ge (tgt := 61) hx hb dX1_put_45 (by decide) (fun c4 => ?_) (fun c4 => ?_)
            · rw [nI_leI (by omega) (by omega)] at c4
              exfalso; omega
            · rw [nI_leI (by omega) (by omega)] at c4
              refine lv_lload hx hb dX1_put_48 (lv_at hl 4 rfl) ?_
              refine lv_bipush (v := nI 8) hx hb dX1_put_50 (by decide) ?_
              refine lv_lshr (v := x9 >>> ((nI 8).toInt64 &&& 63)) hx hb dX1_put_52 rfl ?_
              refine lv_lstore (lv' := [(5, .long (x9 >>> ((nI 8).toInt64 &&& 63))), (0, .ref h), (1, .long v), (3, .int (nI cN)), (4, .int (nI kk)), (7, .int (nI i))]) hx hb dX1_put_53 hl (by decide) rfl (fun ls hl => ?_)
              refine lv_iinc (v := nI (i + 1)) (lv' := [(7, .int (nI (i + 1))), (5, .long (x9 >>> ((nI 8).toInt64 &&& 63))), (0, .ref h), (1, .long v), (3, .int (nI cN)), (4, .int (nI kk))]) hx hb dX1_put_55 hl (k := 5) rfl (nI_1 i) (by decide) rfl (fun ls hl => ?_)
              refine lv_goto (tgt := 42) hx hb dX1_put_58 (by decide) ?_
              exact ih (i + 1) kk (x9 >>> ((nI 8).toInt64 &&& 63)) H9 locs9 ls (by omega) (by omega) (by rw [hx9, show i + 1 - (kk + 1) = (i - (kk + 1)) + 1 by omega]; rfl) hc (lv_sub hl [2, 3, 4, 5, 1, 0] rfl)
        have loop : ∀ (f : Nat) (kk : Nat) (f1 : Nat → Int32) (H : Heap) (locs : List Loc) (ls : Array Slot), kk + f = cN → rn_pu v f (n + kk) f1 = rn_pu v cN n fh → va_P D vwCl (wM h q cs f1 n fb fl fg fr k) H → va_D A (wM h q cs f1 n fb fl fg fr k) → va_S A s.heap H locs → lv_has ls 8 [(0, .ref h), (1, .long v), (3, .int (nI cN)), (4, .int (nI kk))] → W p l e rmX1_put s m args below meth c H locs 0 0 Q (F0 m 27 ls []) := by
          intro f
          induction f with
          | zero =>
            intro kk f1 H locs ls hkf he hP hD hS hl
            refine lv_iload hx hb dX1_put_27 (lv_at hl 3 rfl) ?_
            refine lv_iload_n hx hb dX1_put_29 rfl (lv_at hl 2 rfl) ?_
            refine lv_icmp_ge (tgt := 86) hx hb dX1_put_30 (by decide) (fun c3 => ?_) (fun c3 => ?_)
            · rw [nI_leI (by omega) (by omega)] at c3
              have he : f1 = rn_pu v cN n fh := he
              rw [he] at hP hD
              refine lv_aload_n hx hb dX1_put_86 rfl (lv_at hl 0 rfl) ?_
              refine lv_aload_n hx hb dX1_put_87 rfl (lv_at hl 0 rfl) ?_
              refine va_get (D := D) (ci := 1) (v := .int (nI n)) (C := RX1) (T := TX1) (N := 7) hx hb hts hin hown hK hP 0 rfl rfl 1 (by decide) (hts (.fieldLink RX1 25 "ReferredNamesModel" "inHand" "I") (by decide +kernel)) (fun _ h9 => h9) rfl dX1_put_88 ?_
              refine lv_iload_n hx hb dX1_put_91 rfl (lv_at hl 2 rfl) ?_
              refine lv_iadd hx hb dX1_put_92 ?_
              refine rb_top (y := nI (n + cN)) (nI_add n cN) ?_
              refine va_put (D := D) (ci := 1) (v := .int (nI (n + cN))) (ty := .int) (C := RX1) (T := TX1) (N := 7) hx hb hts hin tyX1 tyX1_ok nmX1 hown hK hP hD hS 0 rfl rfl 1 (by decide) (hts (.fieldLink RX1 25 "ReferredNamesModel" "inHand" "I") (by decide +kernel)) (fun _ h9 => h9) rfl (by decide +kernel) rfl rfl (Nat.le_of_ble_eq_true rfl) dX1_put_93 (fun H locs hP hD hS => ?_)
              have hP : va_P D vwCl (wM h q cs (rn_pu v cN n fh) (n + cN) fb fl fg fr k) H := hP
              have hD : va_D A (wM h q cs (rn_pu v cN n fh) (n + cN) fb fl fg fr k) := hD
              refine lv_iconst (v := nI 1) hx hb dX1_put_96 (by decide) ?_
              refine rb_top (y := nI 1) rfl ?_
              exact hret _ _ _ _ dX1_put_97 hP hD hS
            · rw [nI_leI (by omega) (by omega)] at c3
              exfalso; omega
          | succ f ih =>
            intro kk f1 H locs ls hkf he hP hD hS hl
            refine lv_iload hx hb dX1_put_27 (lv_at hl 3 rfl) ?_
            refine lv_iload_n hx hb dX1_put_29 rfl (lv_at hl 2 rfl) ?_
            refine lv_icmp_ge (tgt := 86) hx hb dX1_put_30 (by decide) (fun c3 => ?_) (fun c3 => ?_)
            · rw [nI_leI (by omega) (by omega)] at c3
              exfalso; omega
            · rw [nI_leI (by omega) (by omega)] at c3
              refine lv_lload_n hx hb dX1_put_33 rfl (lv_at hl 1 rfl) ?_
              refine lv_lstore (lv' := [(5, .long v), (0, .ref h), (1, .long v), (3, .int (nI cN)), (4, .int (nI kk))]) hx hb dX1_put_34 hl (by decide) rfl (fun ls hl => ?_)
              refine lv_iload hx hb dX1_put_36 (lv_at hl 4 rfl) ?_
              refine lv_iconst (v := nI 1) hx hb dX1_put_38 (by decide) ?_
              refine lv_iadd hx hb dX1_put_39 ?_
              refine rb_top (y := nI (kk + 1)) (nI_add kk 1) ?_
              refine lv_istore (lv' := [(7, .int (nI (kk + 1))), (5, .long v), (0, .ref h), (1, .long v), (3, .int (nI cN)), (4, .int (nI kk))]) hx hb dX1_put_40 hl (by decide) rfl (fun ls hl => ?_)
              refine inner f (kk + 1) kk v H locs ls (by omega) (Nat.le_refl _) (by rw [Nat.sub_self]; rfl) (fun ls hl => ?_) (lv_sub hl [2, 3, 4, 5, 1, 0] rfl)
              rw [show cN - (kk + 1) = f by omega] at hl
              refine lv_aload_n hx hb dX1_put_61 rfl (lv_at hl 0 rfl) ?_
              refine va_get (D := D) (ci := 1) (v := .ref (q 1)) (C := RX1) (T := TX1) (N := 7) hx hb hts hin hown hK hP 0 rfl rfl 0 (by decide) (hts (.fieldLink RX1 7 "ReferredNamesModel" "hand" "[I") (by decide +kernel)) (fun _ h9 => h9) rfl dX1_put_62 ?_
              refine lv_aload_n hx hb dX1_put_65 rfl (lv_at hl 0 rfl) ?_
              refine va_get (D := D) (ci := 1) (v := .int (nI n)) (C := RX1) (T := TX1) (N := 7) hx hb hts hin hown hK hP 0 rfl rfl 1 (by decide) (hts (.fieldLink RX1 25 "ReferredNamesModel" "inHand" "I") (by decide +kernel)) (fun _ h9 => h9) rfl dX1_put_66 ?_
              refine lv_iload hx hb dX1_put_69 (lv_at hl 3 rfl) ?_
              refine lv_iadd hx hb dX1_put_71 ?_
              refine rb_top (y := nI (n + kk)) (nI_add n kk) ?_
              refine lv_lload hx hb dX1_put_72 (lv_at hl 4 rfl) ?_
              refine lv_ldc2 (v := 255) hx hb hown (hts (.constantLong RX1 29 (255)) (by decide +kernel)) dX1_put_74 ?_
              refine lv_land hx hb dX1_put_77 ?_
              refine lv_l2i (v := ((rn_sh v f) &&& 255).toInt32) hx hb dX1_put_78 rfl ?_
              refine rb_top (y := rn_by v f &&& nI 255) (rn_shb v (by omega)) ?_
              refine rb_ist hx hb hK hP hD hS 1 0 rfl rfl (i := n + kk) (by omega) (by decide) dX1_put_79 (fun H locs hP hD hS => ?_)
              rw [rn_k_upd] at hP hD
              have hP : va_P D vwCl (wM h q cs (upd f1 (n + kk) (rn_by v f)) n fb fl fg fr k) H := hP
              have hD : va_D A (wM h q cs (upd f1 (n + kk) (rn_by v f)) n fb fl fg fr k) := hD
              refine lv_iinc (v := nI (kk + 1)) (lv' := [(4, .int (nI (kk + 1))), (0, .ref h), (1, .long v), (3, .int (nI cN)), (5, .long (rn_sh v f))]) hx hb dX1_put_80 hl (k := 3) rfl (nI_1 kk) (by decide) rfl (fun ls hl => ?_)
              refine lv_goto (tgt := 27) hx hb dX1_put_83 (by decide) ?_
              exact ih (kk + 1) (upd f1 (n + kk) (rn_by v f)) H locs ls (by omega) he hP hD hS (lv_sub hl [1, 2, 3, 0] rfl)
        exact loop cN 0 fh _ _ ls (by omega) rfl hP hD hS (lv_sub hl [1, 2, 3, 0] rfl)
      · rw [nI_leI (by omega) (by omega)] at c2
        rw [rn_pt_f (Or.inr (Or.inr (by rw [nI_ltI (by omega) (by omega)]; omega)))] at hret
        refine lv_iconst (v := nI 0) hx hb dX1_put_22 (by decide) ?_
        refine rb_top (y := nI 0) rfl ?_
        exact hret _ _ _ _ dX1_put_23 hP hD hS
abbrev rmX1_known : Room := { frames := 1, cells := 0, slots := 0, locals := 24 }
set_option maxHeartbeats 4000000 in
set_option maxRecDepth 100000 in
theorem kX1_known (l : Launch) (D : va_G) (h : Nat) (q : Nat → Nat) (cs : Nat → ClassId) (fh : Nat → Int32) (n : Nat) (fb fl fg fr : Nat → Int32) (k : Nat) (hn : n ≤ 60) (hk : k ≤ 200) (sz : Nat) (hby : ∀ i, (fh i).toInt8.toInt32 = fh i) (hbb : ∀ i, (fb i).toInt8.toInt32 = fb i) (hu : ∀ a b, a < b → b < k → rn_mt fh n fb fl a = true → rn_mt fh n fb fl b = true → False) : Met l yX1_known wsX1_known rmX1_known (wr_P D vwCl (tM cs) [.ref h] (wM h q cs fh n fb fl fg fr k) sz) (wr_Q D vwCl (tM cs) (wM h q cs fh n fb fl fg fr k) (wN h q cs (rn_tk fh n fb fl fg fr k).2) sz ((rn_tk fh n fb fl fg fr k).1)) 0 0 (va_A (wM h q cs fh n fb fl fg fr k) sz) := by
  refine wr_of (cc := cX1_known) (maxL := 3) (ty := .int) (by decide) rfl rfl (Nat.le_of_ble_eq_true rfl) ?_
  intro p e s m args below meth c ls Q A hx hb hml hown hts hK hA hP hD hS hl hret
  have hown : s.vm.findClass RX1 = some m.cls := hown
  have hin : ∀ w ∈ wsX10, w ∈ wsX1_known := by decide +kernel
  have hl : lv_has ls 3 [(0, .ref h)] := hl
  rcases rn_tk_c (fh := fh) (n := n) (fb := fb) (fl := fl) (fg := fg) (fr := fr) hk with ⟨j, hj, e1, e2⟩ | ⟨e1, hlt, e2⟩ | ⟨e1, hlt, e2⟩
  · rw [e2] at hret
    refine lv_aload_n hx hb dX1_known_0 rfl (lv_at hl 0 rfl) ?_
    refine rd_call (ci := 1) (b := h) (As := []) (rest := []) ⟨hx, hb, hml, hown, hts⟩ (kX1_place l D h q cs fh n fb fl fg fr k (by omega) (by omega) hby hbb hu) (cwV 0 hts gX1_known_X1_place rfl rfl rfl (by decide +kernel) ⟨Nat.le_of_ble_eq_true rfl, Nat.le_of_ble_eq_true rfl⟩) hK hP rfl rfl rfl rfl hl.1 rfl (Nat.le_of_ble_eq_true rfl) dX1_known_1 ⟨Nat.zero_le _, Nat.zero_le _⟩ ?_
    refine rb_top (y := nI j) e1 ?_
    refine lv_istore_n (lv' := [(1, .int (nI j)), (0, .ref h)]) hx hb dX1_known_4 rfl hl (by decide) rfl (fun ls hl => ?_)
    refine lv_iload_n hx hb dX1_known_5 rfl (lv_at hl 0 rfl) ?_
    refine lv_if_ge (tgt := 25) hx hb dX1_known_6 (by decide) (fun c0 => ?_) (fun c0 => ?_)
    · rw [show (0 : Int32) = nI 0 from rfl] at c0
      rw [nI_leI (by omega) (by omega)] at c0
      refine lv_iload_n hx hb dX1_known_25 rfl (lv_at hl 0 rfl) ?_
      refine lv_if_ge (tgt := 101) hx hb dX1_known_26 (by decide) (fun c2 => ?_) (fun c2 => ?_)
      · rw [show (0 : Int32) = nI 0 from rfl] at c2
        rw [nI_leI (by omega) (by omega)] at c2
        refine lv_aload_n hx hb dX1_known_101 rfl (lv_at hl 1 rfl) ?_
        refine lv_iconst (v := nI 0) hx hb dX1_known_102 (by decide) ?_
        refine va_put (D := D) (ci := 1) (v := .int (nI 0)) (ty := .int) (C := RX1) (T := TX1) (N := 7) hx hb hts hin tyX1 tyX1_ok nmX1 hown hK hP hD hS 0 rfl rfl 1 (by decide) (hts (.fieldLink RX1 25 "ReferredNamesModel" "inHand" "I") (by decide +kernel)) (fun _ h9 => h9) rfl (by decide +kernel) rfl rfl (Nat.le_of_ble_eq_true rfl) dX1_known_103 (fun H locs hP hD hS => ?_)
        have hP : va_P D vwCl (wM h q cs fh 0 fb fl fg fr k) H := hP
        have hD : va_D A (wM h q cs fh 0 fb fl fg fr k) := hD
        refine lv_iload_n hx hb dX1_known_106 rfl (lv_at hl 0 rfl) ?_
        refine rb_top (y := nI j) rfl ?_
        exact hret _ _ _ _ dX1_known_107 hP hD hS
      · rw [show (0 : Int32) = nI 0 from rfl] at c2
        rw [nI_leI (by omega) (by omega)] at c2
        exfalso; omega
    · rw [show (0 : Int32) = nI 0 from rfl] at c0
      rw [nI_leI (by omega) (by omega)] at c0
      exfalso; omega
  · rw [e2] at hret
    refine lv_aload_n hx hb dX1_known_0 rfl (lv_at hl 0 rfl) ?_
    refine rd_call (ci := 1) (b := h) (As := []) (rest := []) ⟨hx, hb, hml, hown, hts⟩ (kX1_place l D h q cs fh n fb fl fg fr k (by omega) (by omega) hby hbb hu) (cwV 0 hts gX1_known_X1_place rfl rfl rfl (by decide +kernel) ⟨Nat.le_of_ble_eq_true rfl, Nat.le_of_ble_eq_true rfl⟩) hK hP rfl rfl rfl rfl hl.1 rfl (Nat.le_of_ble_eq_true rfl) dX1_known_1 ⟨Nat.zero_le _, Nat.zero_le _⟩ ?_
    refine rb_top (y := (-1)) e1 ?_
    refine lv_istore_n (lv' := [(1, .int ((-1))), (0, .ref h)]) hx hb dX1_known_4 rfl hl (by decide) rfl (fun ls hl => ?_)
    refine lv_iload_n hx hb dX1_known_5 rfl (lv_at hl 0 rfl) ?_
    refine lv_if_ge (tgt := 25) hx hb dX1_known_6 (by decide) (fun c0 => ?_) (fun c0 => ?_)
    · exact absurd c0 (by decide)
    · refine lv_aload_n hx hb dX1_known_9 rfl (lv_at hl 1 rfl) ?_
      refine va_get (D := D) (ci := 1) (v := .int (nI k)) (C := RX1) (T := TX1) (N := 7) hx hb hts hin hown hK hP 0 rfl rfl 6 (by decide) (hts (.fieldLink RX1 31 "ReferredNamesModel" "known" "I") (by decide +kernel)) (fun _ h9 => h9) rfl dX1_known_10 ?_
      refine lv_sipush (v := nI 200) hx hb dX1_known_13 (by decide) ?_
      refine lv_icmp_ne (tgt := 25) hx hb dX1_known_16 (by decide) (fun c1 => ?_) (fun c1 => ?_)
      · rw [nI_eq (by omega) (by omega)] at c1
        refine lv_iload_n hx hb dX1_known_25 rfl (lv_at hl 0 rfl) ?_
        refine lv_if_ge (tgt := 101) hx hb dX1_known_26 (by decide) (fun c2 => ?_) (fun c2 => ?_)
        · exact absurd c2 (by decide)
        · refine lv_aload_n hx hb dX1_known_29 rfl (lv_at hl 1 rfl) ?_
          refine va_get (D := D) (ci := 1) (v := .int (nI k)) (C := RX1) (T := TX1) (N := 7) hx hb hts hin hown hK hP 0 rfl rfl 6 (by decide) (hts (.fieldLink RX1 31 "ReferredNamesModel" "known" "I") (by decide +kernel)) (fun _ h9 => h9) rfl dX1_known_30 ?_
          refine lv_istore_n (lv' := [(1, .int (nI k)), (0, .ref h)]) hx hb dX1_known_33 rfl hl (by decide) rfl (fun ls hl => ?_)
          refine lv_aload_n hx hb dX1_known_34 rfl (lv_at hl 1 rfl) ?_
          refine va_get (D := D) (ci := 1) (v := .ref (q 3)) (C := RX1) (T := TX1) (N := 7) hx hb hts hin hown hK hP 0 rfl rfl 3 (by decide) (hts (.fieldLink RX1 16 "ReferredNamesModel" "sizes" "[I") (by decide +kernel)) (fun _ h9 => h9) rfl dX1_known_35 ?_
          refine lv_iload_n hx hb dX1_known_38 rfl (lv_at hl 0 rfl) ?_
          refine lv_aload_n hx hb dX1_known_39 rfl (lv_at hl 1 rfl) ?_
          refine va_get (D := D) (ci := 1) (v := .int (nI n)) (C := RX1) (T := TX1) (N := 7) hx hb hts hin hown hK hP 0 rfl rfl 1 (by decide) (hts (.fieldLink RX1 25 "ReferredNamesModel" "inHand" "I") (by decide +kernel)) (fun _ h9 => h9) rfl dX1_known_40 ?_
          refine rb_ist hx hb hK hP hD hS 3 2 rfl rfl (i := k) (by omega) (by decide) dX1_known_43 (fun H locs hP hD hS => ?_)
          have hP : va_P D vwCl (wM h q cs fh n fb (upd fl k (nI n)) fg fr k) H := hP
          have hD : va_D A (wM h q cs fh n fb (upd fl k (nI n)) fg fr k) := hD
          refine lv_iconst (v := nI 0) hx hb dX1_known_44 (by decide) ?_
          refine lv_istore_n (lv' := [(2, .int (nI 0)), (1, .int (nI k)), (0, .ref h)]) hx hb dX1_known_45 rfl hl (by decide) rfl (fun ls hl => ?_)
          have loop : ∀ (f : Nat) (i : Nat) (H : Heap) (locs : List Loc) (ls : Array Slot), i + f = n → va_P D vwCl (wM h q cs fh n (va_cpy fh fb 0 (k * 60) i) (upd fl k (nI n)) fg fr k) H → va_D A (wM h q cs fh n (va_cpy fh fb 0 (k * 60) i) (upd fl k (nI n)) fg fr k) → va_S A s.heap H locs → lv_has ls 3 [(0, .ref h), (1, .int (nI k)), (2, .int (nI i))] → W p l e rmX1_known s m args below meth c H locs 0 0 Q (F0 m 46 ls []) := by
            intro f
            induction f with
            | zero =>
              intro i H locs ls hi hP hD hS hl
              refine lv_iload_n hx hb dX1_known_46 rfl (lv_at hl 2 rfl) ?_
              refine lv_aload_n hx hb dX1_known_47 rfl (lv_at hl 0 rfl) ?_
              refine va_get (D := D) (ci := 1) (v := .int (nI n)) (C := RX1) (T := TX1) (N := 7) hx hb hts hin hown hK hP 0 rfl rfl 1 (by decide) (hts (.fieldLink RX1 25 "ReferredNamesModel" "inHand" "I") (by decide +kernel)) (fun _ h9 => h9) rfl dX1_known_48 ?_
              refine lv_icmp_ge (tgt := 77) hx hb dX1_known_51 (by decide) (fun c3 => ?_) (fun c3 => ?_)
              · rw [nI_leI (by omega) (by omega)] at c3
                have ei : i = n := by omega
                rw [ei] at hP hD
                refine lv_aload_n hx hb dX1_known_77 rfl (lv_at hl 0 rfl) ?_
                refine va_get (D := D) (ci := 1) (v := .ref (q 4)) (C := RX1) (T := TX1) (N := 7) hx hb hts hin hown hK hP 0 rfl rfl 4 (by decide) (hts (.fieldLink RX1 19 "ReferredNamesModel" "given" "[I") (by decide +kernel)) (fun _ h9 => h9) rfl dX1_known_78 ?_
                refine lv_iload_n hx hb dX1_known_81 rfl (lv_at hl 1 rfl) ?_
                refine lv_iconst (v := nI 0) hx hb dX1_known_82 (by decide) ?_
                refine rb_ist hx hb hK hP hD hS 4 3 rfl rfl (i := k) (by omega) (by decide) dX1_known_83 (fun H locs hP hD hS => ?_)
                have hP : va_P D vwCl (wM h q cs fh n (va_cpy fh fb 0 (k * 60) n) (upd fl k (nI n)) (upd fg k (nI 0)) fr k) H := hP
                have hD : va_D A (wM h q cs fh n (va_cpy fh fb 0 (k * 60) n) (upd fl k (nI n)) (upd fg k (nI 0)) fr k) := hD
                refine lv_aload_n hx hb dX1_known_84 rfl (lv_at hl 0 rfl) ?_
                refine va_get (D := D) (ci := 1) (v := .ref (q 5)) (C := RX1) (T := TX1) (N := 7) hx hb hts hin hown hK hP 0 rfl rfl 5 (by decide) (hts (.fieldLink RX1 22 "ReferredNamesModel" "referred" "[I") (by decide +kernel)) (fun _ h9 => h9) rfl dX1_known_85 ?_
                refine lv_iload_n hx hb dX1_known_88 rfl (lv_at hl 1 rfl) ?_
                refine lv_iconst (v := nI 0) hx hb dX1_known_89 (by decide) ?_
                refine rb_ist hx hb hK hP hD hS 5 4 rfl rfl (i := k) (by omega) (by decide) dX1_known_90 (fun H locs hP hD hS => ?_)
                have hP : va_P D vwCl (wM h q cs fh n (va_cpy fh fb 0 (k * 60) n) (upd fl k (nI n)) (upd fg k (nI 0)) (upd fr k (nI 0)) k) H := hP
                have hD : va_D A (wM h q cs fh n (va_cpy fh fb 0 (k * 60) n) (upd fl k (nI n)) (upd fg k (nI 0)) (upd fr k (nI 0)) k) := hD
                refine lv_aload_n hx hb dX1_known_91 rfl (lv_at hl 0 rfl) ?_
                refine lv_dup hx hb dX1_known_92 rfl ?_
                refine va_get (D := D) (ci := 1) (v := .int (nI k)) (C := RX1) (T := TX1) (N := 7) hx hb hts hin hown hK hP 0 rfl rfl 6 (by decide) (hts (.fieldLink RX1 31 "ReferredNamesModel" "known" "I") (by decide +kernel)) (fun _ h9 => h9) rfl dX1_known_93 ?_
                refine lv_iconst (v := nI 1) hx hb dX1_known_96 (by decide) ?_
                refine lv_iadd hx hb dX1_known_97 ?_
                refine rb_top (y := nI (k + 1)) (nI_add k 1) ?_
                refine va_put (D := D) (ci := 1) (v := .int (nI (k + 1))) (ty := .int) (C := RX1) (T := TX1) (N := 7) hx hb hts hin tyX1 tyX1_ok nmX1 hown hK hP hD hS 0 rfl rfl 6 (by decide) (hts (.fieldLink RX1 31 "ReferredNamesModel" "known" "I") (by decide +kernel)) (fun _ h9 => h9) rfl (by decide +kernel) rfl rfl (Nat.le_of_ble_eq_true rfl) dX1_known_98 (fun H locs hP hD hS => ?_)
                have hP : va_P D vwCl (wM h q cs fh n (va_cpy fh fb 0 (k * 60) n) (upd fl k (nI n)) (upd fg k (nI 0)) (upd fr k (nI 0)) (k + 1)) H := hP
                have hD : va_D A (wM h q cs fh n (va_cpy fh fb 0 (k * 60) n) (upd fl k (nI n)) (upd fg k (nI 0)) (upd fr k (nI 0)) (k + 1)) := hD
                refine lv_aload_n hx hb dX1_known_101 rfl (lv_at hl 0 rfl) ?_
                refine lv_iconst (v := nI 0) hx hb dX1_known_102 (by decide) ?_
                refine va_put (D := D) (ci := 1) (v := .int (nI 0)) (ty := .int) (C := RX1) (T := TX1) (N := 7) hx hb hts hin tyX1 tyX1_ok nmX1 hown hK hP hD hS 0 rfl rfl 1 (by decide) (hts (.fieldLink RX1 25 "ReferredNamesModel" "inHand" "I") (by decide +kernel)) (fun _ h9 => h9) rfl (by decide +kernel) rfl rfl (Nat.le_of_ble_eq_true rfl) dX1_known_103 (fun H locs hP hD hS => ?_)
                have hP : va_P D vwCl (wM h q cs fh 0 (va_cpy fh fb 0 (k * 60) n) (upd fl k (nI n)) (upd fg k (nI 0)) (upd fr k (nI 0)) (k + 1)) H := hP
                have hD : va_D A (wM h q cs fh 0 (va_cpy fh fb 0 (k * 60) n) (upd fl k (nI n)) (upd fg k (nI 0)) (upd fr k (nI 0)) (k + 1)) := hD
                refine lv_iload_n hx hb dX1_known_106 rfl (lv_at hl 1 rfl) ?_
                refine rb_top (y := nI k) rfl ?_
                exact hret _ _ _ _ dX1_known_107 hP hD hS
              · rw [nI_leI (by omega) (by omega)] at c3
                exfalso; omega
            | succ f ih =>
              intro i H locs ls hi hP hD hS hl
              refine lv_iload_n hx hb dX1_known_46 rfl (lv_at hl 2 rfl) ?_
              refine lv_aload_n hx hb dX1_known_47 rfl (lv_at hl 0 rfl) ?_
              refine va_get (D := D) (ci := 1) (v := .int (nI n)) (C := RX1) (T := TX1) (N := 7) hx hb hts hin hown hK hP 0 rfl rfl 1 (by decide) (hts (.fieldLink RX1 25 "ReferredNamesModel" "inHand" "I") (by decide +kernel)) (fun _ h9 => h9) rfl dX1_known_48 ?_
              refine lv_icmp_ge (tgt := 77) hx hb dX1_known_51 (by decide) (fun c3 => ?_) (fun c3 => ?_)
              · rw [nI_leI (by omega) (by omega)] at c3
                exfalso; omega
              · rw [nI_leI (by omega) (by omega)] at c3
                refine lv_aload_n hx hb dX1_known_54 rfl (lv_at hl 0 rfl) ?_
                refine va_get (D := D) (ci := 1) (v := .ref (q 2)) (C := RX1) (T := TX1) (N := 7) hx hb hts hin hown hK hP 0 rfl rfl 2 (by decide) (hts (.fieldLink RX1 13 "ReferredNamesModel" "bytes" "[I") (by decide +kernel)) (fun _ h9 => h9) rfl dX1_known_55 ?_
                refine lv_bipush (v := nI 60) hx hb dX1_known_58 (by decide) ?_
                refine lv_iload_n hx hb dX1_known_60 rfl (lv_at hl 1 rfl) ?_
                refine lv_imul hx hb dX1_known_61 ?_
                refine rb_top (y := nI (k * 60)) (by rw [pk_mul, Nat.mul_comm]) ?_
                refine lv_iload_n hx hb dX1_known_62 rfl (lv_at hl 2 rfl) ?_
                refine lv_iadd hx hb dX1_known_63 ?_
                refine rb_top (y := nI ((k * 60) + i)) (nI_add (k * 60) i) ?_
                refine lv_aload_n hx hb dX1_known_64 rfl (lv_at hl 0 rfl) ?_
                refine va_get (D := D) (ci := 1) (v := .ref (q 1)) (C := RX1) (T := TX1) (N := 7) hx hb hts hin hown hK hP 0 rfl rfl 0 (by decide) (hts (.fieldLink RX1 7 "ReferredNamesModel" "hand" "[I") (by decide +kernel)) (fun _ h9 => h9) rfl dX1_known_65 ?_
                refine lv_iload_n hx hb dX1_known_68 rfl (lv_at hl 2 rfl) ?_
                refine rb_ild hx hb hK hP 1 0 rfl rfl (i := i) (by omega) (by decide) dX1_known_69 ?_
                refine rb_ist hx hb hK hP hD hS 2 1 rfl rfl (i := (k * 60) + i) (by omega) (by decide) dX1_known_70 (fun H locs hP hD hS => ?_)
                rw [rn_k_upd2] at hP hD
                have hP : va_P D vwCl (wM h q cs fh n (upd (va_cpy fh fb 0 (k * 60) i) ((k * 60) + i) (fh i)) (upd fl k (nI n)) fg fr k) H := hP
                have hD : va_D A (wM h q cs fh n (upd (va_cpy fh fb 0 (k * 60) i) ((k * 60) + i) (fh i)) (upd fl k (nI n)) fg fr k) := hD
                refine lv_iinc (v := nI (i + 1)) (lv' := [(2, .int (nI (i + 1))), (0, .ref h), (1, .int (nI k))]) hx hb dX1_known_71 hl (k := 2) rfl (nI_1 i) (by decide) rfl (fun ls hl => ?_)
                refine lv_goto (tgt := 46) hx hb dX1_known_74 (by decide) ?_
                rw [rn_cpy_s] at hP hD
                exact ih (i + 1) H locs ls (by omega) hP hD hS (lv_sub hl [1, 2, 0] rfl)
          exact loop n 0 _ _ ls (by omega) (by rw [rn_cpy_0]; exact hP) (by rw [rn_cpy_0]; exact hD) hS (lv_sub hl [2, 1, 0] rfl)
      · rw [nI_eq (by omega) (by omega)] at c1
        exfalso; omega
  · rw [e2] at hret
    refine lv_aload_n hx hb dX1_known_0 rfl (lv_at hl 0 rfl) ?_
    refine rd_call (ci := 1) (b := h) (As := []) (rest := []) ⟨hx, hb, hml, hown, hts⟩ (kX1_place l D h q cs fh n fb fl fg fr k (by omega) (by omega) hby hbb hu) (cwV 0 hts gX1_known_X1_place rfl rfl rfl (by decide +kernel) ⟨Nat.le_of_ble_eq_true rfl, Nat.le_of_ble_eq_true rfl⟩) hK hP rfl rfl rfl rfl hl.1 rfl (Nat.le_of_ble_eq_true rfl) dX1_known_1 ⟨Nat.zero_le _, Nat.zero_le _⟩ ?_
    refine rb_top (y := (-1)) e1 ?_
    refine lv_istore_n (lv' := [(1, .int ((-1))), (0, .ref h)]) hx hb dX1_known_4 rfl hl (by decide) rfl (fun ls hl => ?_)
    refine lv_iload_n hx hb dX1_known_5 rfl (lv_at hl 0 rfl) ?_
    refine lv_if_ge (tgt := 25) hx hb dX1_known_6 (by decide) (fun c0 => ?_) (fun c0 => ?_)
    · exact absurd c0 (by decide)
    · refine lv_aload_n hx hb dX1_known_9 rfl (lv_at hl 1 rfl) ?_
      refine va_get (D := D) (ci := 1) (v := .int (nI k)) (C := RX1) (T := TX1) (N := 7) hx hb hts hin hown hK hP 0 rfl rfl 6 (by decide) (hts (.fieldLink RX1 31 "ReferredNamesModel" "known" "I") (by decide +kernel)) (fun _ h9 => h9) rfl dX1_known_10 ?_
      refine lv_sipush (v := nI 200) hx hb dX1_known_13 (by decide) ?_
      refine lv_icmp_ne (tgt := 25) hx hb dX1_known_16 (by decide) (fun c1 => ?_) (fun c1 => ?_)
      · rw [nI_eq (by omega) (by omega)] at c1
        exfalso; omega
      · rw [nI_eq (by omega) (by omega)] at c1
        refine lv_bipush (v := (-2)) hx hb dX1_known_19 (by decide) ?_
        refine lv_istore_n (lv' := [(1, .int ((-2))), (0, .ref h)]) hx hb dX1_known_21 rfl hl (by decide) rfl (fun ls hl => ?_)
        refine lv_goto (tgt := 101) hx hb dX1_known_22 (by decide) ?_
        refine lv_aload_n hx hb dX1_known_101 rfl (lv_at hl 1 rfl) ?_
        refine lv_iconst (v := nI 0) hx hb dX1_known_102 (by decide) ?_
        refine va_put (D := D) (ci := 1) (v := .int (nI 0)) (ty := .int) (C := RX1) (T := TX1) (N := 7) hx hb hts hin tyX1 tyX1_ok nmX1 hown hK hP hD hS 0 rfl rfl 1 (by decide) (hts (.fieldLink RX1 25 "ReferredNamesModel" "inHand" "I") (by decide +kernel)) (fun _ h9 => h9) rfl (by decide +kernel) rfl rfl (Nat.le_of_ble_eq_true rfl) dX1_known_103 (fun H locs hP hD hS => ?_)
        have hP : va_P D vwCl (wM h q cs fh 0 fb fl fg fr k) H := hP
        have hD : va_D A (wM h q cs fh 0 fb fl fg fr k) := hD
        refine lv_iload_n hx hb dX1_known_106 rfl (lv_at hl 0 rfl) ?_
        refine rb_top (y := (-2)) rfl ?_
        exact hret _ _ _ _ dX1_known_107 hP hD hS
abbrev rmX1_give : Room := { frames := 2, cells := 0, slots := 0, locals := 46 }
set_option maxHeartbeats 4000000 in
set_option maxRecDepth 100000 in
theorem kX1_give (l : Launch) (D : va_G) (h : Nat) (q : Nat → Nat) (cs : Nat → ClassId) (fh : Nat → Int32) (n : Nat) (fb fl fg fr : Nat → Int32) (k : Nat) (hn : n ≤ 60) (hk : k ≤ 200) (sz : Nat) (hby : ∀ i, (fh i).toInt8.toInt32 = fh i) (hbb : ∀ i, (fb i).toInt8.toInt32 = fb i) (hu : ∀ a b, a < b → b < k → rn_mt fh n fb fl a = true → rn_mt fh n fb fl b = true → False) : Met l yX1_give wsX1_give rmX1_give (wr_P D vwCl (tM cs) [.ref h] (wM h q cs fh n fb fl fg fr k) sz) (wr_Q D vwCl (tM cs) (wM h q cs fh n fb fl fg fr k) (wN h q cs (rn_gv fh n fb fl fg fr k).2) sz ((rn_gv fh n fb fl fg fr k).1)) 0 0 (va_A (wM h q cs fh n fb fl fg fr k) sz) := by
  refine wr_of (cc := cX1_give) (maxL := 2) (ty := .int) (by decide) rfl rfl (Nat.le_of_ble_eq_true rfl) ?_
  intro p e s m args below meth c ls Q A hx hb hml hown hts hK hA hP hD hS hl hret
  have hown : s.vm.findClass RX1 = some m.cls := hown
  have hin : ∀ w ∈ wsX10, w ∈ wsX1_give := by decide +kernel
  have hl : lv_has ls 2 [(0, .ref h)] := hl
  refine lv_aload_n hx hb dX1_give_0 rfl (lv_at hl 0 rfl) ?_
  refine va_get (D := D) (ci := 1) (v := .int (nI n)) (C := RX1) (T := TX1) (N := 7) hx hb hts hin hown hK hP 0 rfl rfl 1 (by decide) (hts (.fieldLink RX1 25 "ReferredNamesModel" "inHand" "I") (by decide +kernel)) (fun _ h9 => h9) rfl dX1_give_1 ?_
  refine lv_if_ne (tgt := 10) hx hb dX1_give_4 (by decide) (fun c0 => ?_) (fun c0 => ?_)
  · rw [show (0 : Int32) = nI 0 from rfl] at c0
    rw [nI_eq (by omega) (by omega)] at c0
    rw [rn_gv_p c0] at hret
    rcases rn_tk_c (fh := fh) (n := n) (fb := fb) (fl := fl) (fg := fg) (fr := fr) hk with ⟨j, hj, e1, e2⟩ | ⟨e1, hlt, e2⟩ | ⟨e1, hlt, e2⟩
    · rw [e2, rn_gs_j (by omega)] at hret
      refine lv_aload_n hx hb dX1_give_10 rfl (lv_at hl 0 rfl) ?_
      have c9 := kX1_known l D h q cs fh n fb fl fg fr k (by omega) (by omega) s.heap.size hby hbb hu
      rw [e2] at c9
      refine wr_call (ci := 1) (b := h) (As := []) (rest := []) (wr := []) ⟨hx, hb, hml, hown, hts⟩ (c9) (cwV 0 hts gX1_give_X1_known rfl rfl rfl (by decide +kernel) ⟨Nat.le_of_ble_eq_true rfl, Nat.le_of_ble_eq_true rfl⟩) hK hP hD hS hA [0, 1, 2, 3, 4, 5] [] rfl rfl (by decide) (by decide) (by decide) rfl rfl rfl rfl hl.1 rfl (Nat.le_of_ble_eq_true rfl) dX1_give_11 ⟨Nat.le_of_ble_eq_true rfl, Nat.le_of_ble_eq_true rfl⟩ (fun H locs hP hD hS => ?_)
      have hP : va_P D vwCl (wM h q cs fh 0 fb fl fg fr k) H := hP
      have hD : va_D A (wM h q cs fh 0 fb fl fg fr k) := hD
      refine rb_top (y := nI j) rfl ?_
      refine lv_istore_n (lv' := [(1, .int (nI j)), (0, .ref h)]) hx hb dX1_give_14 rfl hl (by decide) rfl (fun ls hl => ?_)
      refine lv_iload_n hx hb dX1_give_15 rfl (lv_at hl 0 rfl) ?_
      refine lv_if_ge (tgt := 21) hx hb dX1_give_16 (by decide) (fun c1 => ?_) (fun c1 => ?_)
      · rw [show (0 : Int32) = nI 0 from rfl] at c1
        rw [nI_leI (by omega) (by omega)] at c1
        refine lv_aload_n hx hb dX1_give_21 rfl (lv_at hl 1 rfl) ?_
        refine va_get (D := D) (ci := 1) (v := .ref (q 4)) (C := RX1) (T := TX1) (N := 7) hx hb hts hin hown hK hP 0 rfl rfl 4 (by decide) (hts (.fieldLink RX1 19 "ReferredNamesModel" "given" "[I") (by decide +kernel)) (fun _ h9 => h9) rfl dX1_give_22 ?_
        refine lv_iload_n hx hb dX1_give_25 rfl (lv_at hl 0 rfl) ?_
        refine lv_aload_n hx hb dX1_give_26 rfl (lv_at hl 1 rfl) ?_
        refine va_get (D := D) (ci := 1) (v := .ref (q 4)) (C := RX1) (T := TX1) (N := 7) hx hb hts hin hown hK hP 0 rfl rfl 4 (by decide) (hts (.fieldLink RX1 19 "ReferredNamesModel" "given" "[I") (by decide +kernel)) (fun _ h9 => h9) rfl dX1_give_27 ?_
        refine lv_iload_n hx hb dX1_give_30 rfl (lv_at hl 0 rfl) ?_
        refine rb_ild hx hb hK hP 4 3 rfl rfl (i := j) (by omega) (by decide) dX1_give_31 ?_
        refine lv_iconst (v := nI 1) hx hb dX1_give_32 (by decide) ?_
        refine lv_iadd hx hb dX1_give_33 ?_
        refine rb_ist hx hb hK hP hD hS 4 3 rfl rfl (i := j) (by omega) (by decide) dX1_give_34 (fun H locs hP hD hS => ?_)
        have hP : va_P D vwCl (wM h q cs fh 0 fb fl (upd fg j ((fg j) + (nI 1))) fr k) H := hP
        have hD : va_D A (wM h q cs fh 0 fb fl (upd fg j ((fg j) + (nI 1))) fr k) := hD
        refine lv_aload_n hx hb dX1_give_35 rfl (lv_at hl 1 rfl) ?_
        refine va_get (D := D) (ci := 1) (v := .ref (q 4)) (C := RX1) (T := TX1) (N := 7) hx hb hts hin hown hK hP 0 rfl rfl 4 (by decide) (hts (.fieldLink RX1 19 "ReferredNamesModel" "given" "[I") (by decide +kernel)) (fun _ h9 => h9) rfl dX1_give_36 ?_
        refine lv_iload_n hx hb dX1_give_39 rfl (lv_at hl 0 rfl) ?_
        refine rb_ild hx hb hK hP 4 3 rfl rfl (i := j) (by omega) (by decide) dX1_give_40 ?_
        refine lv_iconst (v := nI 1) hx hb dX1_give_41 (by decide) ?_
        refine lv_icmp_ne (tgt := 49) hx hb dX1_give_42 (by decide) (fun c2 => ?_) (fun c2 => ?_)
        · refine lv_iconst (v := (-1)) hx hb dX1_give_49 (by decide) ?_
          refine rb_top (y := (if rn_gi fg j = true then -1 else nI j)) ((if_pos (rn_gi_1 c2)).symm) ?_
          exact hret _ _ _ _ dX1_give_50 hP hD hS
        · refine lv_iload_n hx hb dX1_give_45 rfl (lv_at hl 0 rfl) ?_
          refine lv_goto (tgt := 50) hx hb dX1_give_46 (by decide) ?_
          refine rb_top (y := (if rn_gi fg j = true then -1 else nI j)) ((if_neg (rn_gi_0 c2)).symm) ?_
          exact hret _ _ _ _ dX1_give_50 hP hD hS
      · rw [show (0 : Int32) = nI 0 from rfl] at c1
        rw [nI_leI (by omega) (by omega)] at c1
        exfalso; omega
    · rw [e2, rn_gs_j (by omega)] at hret
      refine lv_aload_n hx hb dX1_give_10 rfl (lv_at hl 0 rfl) ?_
      have c9 := kX1_known l D h q cs fh n fb fl fg fr k (by omega) (by omega) s.heap.size hby hbb hu
      rw [e2] at c9
      refine wr_call (ci := 1) (b := h) (As := []) (rest := []) (wr := []) ⟨hx, hb, hml, hown, hts⟩ (c9) (cwV 0 hts gX1_give_X1_known rfl rfl rfl (by decide +kernel) ⟨Nat.le_of_ble_eq_true rfl, Nat.le_of_ble_eq_true rfl⟩) hK hP hD hS hA [0, 1, 2, 3, 4, 5] [] rfl rfl (by decide) (by decide) (by decide) rfl rfl rfl rfl hl.1 rfl (Nat.le_of_ble_eq_true rfl) dX1_give_11 ⟨Nat.le_of_ble_eq_true rfl, Nat.le_of_ble_eq_true rfl⟩ (fun H locs hP hD hS => ?_)
      have hP : va_P D vwCl (wM h q cs fh 0 (va_cpy fh fb 0 (k * 60) n) (upd fl k (nI n)) (upd fg k (nI 0)) (upd fr k (nI 0)) (k + 1)) H := hP
      have hD : va_D A (wM h q cs fh 0 (va_cpy fh fb 0 (k * 60) n) (upd fl k (nI n)) (upd fg k (nI 0)) (upd fr k (nI 0)) (k + 1)) := hD
      refine rb_top (y := nI k) rfl ?_
      refine lv_istore_n (lv' := [(1, .int (nI k)), (0, .ref h)]) hx hb dX1_give_14 rfl hl (by decide) rfl (fun ls hl => ?_)
      refine lv_iload_n hx hb dX1_give_15 rfl (lv_at hl 0 rfl) ?_
      refine lv_if_ge (tgt := 21) hx hb dX1_give_16 (by decide) (fun c1 => ?_) (fun c1 => ?_)
      · rw [show (0 : Int32) = nI 0 from rfl] at c1
        rw [nI_leI (by omega) (by omega)] at c1
        refine lv_aload_n hx hb dX1_give_21 rfl (lv_at hl 1 rfl) ?_
        refine va_get (D := D) (ci := 1) (v := .ref (q 4)) (C := RX1) (T := TX1) (N := 7) hx hb hts hin hown hK hP 0 rfl rfl 4 (by decide) (hts (.fieldLink RX1 19 "ReferredNamesModel" "given" "[I") (by decide +kernel)) (fun _ h9 => h9) rfl dX1_give_22 ?_
        refine lv_iload_n hx hb dX1_give_25 rfl (lv_at hl 0 rfl) ?_
        refine lv_aload_n hx hb dX1_give_26 rfl (lv_at hl 1 rfl) ?_
        refine va_get (D := D) (ci := 1) (v := .ref (q 4)) (C := RX1) (T := TX1) (N := 7) hx hb hts hin hown hK hP 0 rfl rfl 4 (by decide) (hts (.fieldLink RX1 19 "ReferredNamesModel" "given" "[I") (by decide +kernel)) (fun _ h9 => h9) rfl dX1_give_27 ?_
        refine lv_iload_n hx hb dX1_give_30 rfl (lv_at hl 0 rfl) ?_
        refine rb_ild hx hb hK hP 4 3 rfl rfl (i := k) (by omega) (by decide) dX1_give_31 ?_
        refine lv_iconst (v := nI 1) hx hb dX1_give_32 (by decide) ?_
        refine lv_iadd hx hb dX1_give_33 ?_
        refine rb_ist hx hb hK hP hD hS 4 3 rfl rfl (i := k) (by omega) (by decide) dX1_give_34 (fun H locs hP hD hS => ?_)
        have hP : va_P D vwCl (wM h q cs fh 0 (va_cpy fh fb 0 (k * 60) n) (upd fl k (nI n)) (upd (upd fg k (nI 0)) k (((upd fg k (nI 0)) k) + (nI 1))) (upd fr k (nI 0)) (k + 1)) H := hP
        have hD : va_D A (wM h q cs fh 0 (va_cpy fh fb 0 (k * 60) n) (upd fl k (nI n)) (upd (upd fg k (nI 0)) k (((upd fg k (nI 0)) k) + (nI 1))) (upd fr k (nI 0)) (k + 1)) := hD
        refine lv_aload_n hx hb dX1_give_35 rfl (lv_at hl 1 rfl) ?_
        refine va_get (D := D) (ci := 1) (v := .ref (q 4)) (C := RX1) (T := TX1) (N := 7) hx hb hts hin hown hK hP 0 rfl rfl 4 (by decide) (hts (.fieldLink RX1 19 "ReferredNamesModel" "given" "[I") (by decide +kernel)) (fun _ h9 => h9) rfl dX1_give_36 ?_
        refine lv_iload_n hx hb dX1_give_39 rfl (lv_at hl 0 rfl) ?_
        refine rb_ild hx hb hK hP 4 3 rfl rfl (i := k) (by omega) (by decide) dX1_give_40 ?_
        refine lv_iconst (v := nI 1) hx hb dX1_give_41 (by decide) ?_
        refine lv_icmp_ne (tgt := 49) hx hb dX1_give_42 (by decide) (fun c2 => ?_) (fun c2 => ?_)
        · refine lv_iconst (v := (-1)) hx hb dX1_give_49 (by decide) ?_
          refine rb_top (y := (if rn_gi (upd fg k (nI 0)) k = true then -1 else nI k)) ((if_pos (rn_gi_1 c2)).symm) ?_
          exact hret _ _ _ _ dX1_give_50 hP hD hS
        · refine lv_iload_n hx hb dX1_give_45 rfl (lv_at hl 0 rfl) ?_
          refine lv_goto (tgt := 50) hx hb dX1_give_46 (by decide) ?_
          refine rb_top (y := (if rn_gi (upd fg k (nI 0)) k = true then -1 else nI k)) ((if_neg (rn_gi_0 c2)).symm) ?_
          exact hret _ _ _ _ dX1_give_50 hP hD hS
      · rw [show (0 : Int32) = nI 0 from rfl] at c1
        rw [nI_leI (by omega) (by omega)] at c1
        exfalso; omega
    · rw [e2, rn_gs_n] at hret
      refine lv_aload_n hx hb dX1_give_10 rfl (lv_at hl 0 rfl) ?_
      have c9 := kX1_known l D h q cs fh n fb fl fg fr k (by omega) (by omega) s.heap.size hby hbb hu
      rw [e2] at c9
      refine wr_call (ci := 1) (b := h) (As := []) (rest := []) (wr := []) ⟨hx, hb, hml, hown, hts⟩ (c9) (cwV 0 hts gX1_give_X1_known rfl rfl rfl (by decide +kernel) ⟨Nat.le_of_ble_eq_true rfl, Nat.le_of_ble_eq_true rfl⟩) hK hP hD hS hA [0, 1, 2, 3, 4, 5] [] rfl rfl (by decide) (by decide) (by decide) rfl rfl rfl rfl hl.1 rfl (Nat.le_of_ble_eq_true rfl) dX1_give_11 ⟨Nat.le_of_ble_eq_true rfl, Nat.le_of_ble_eq_true rfl⟩ (fun H locs hP hD hS => ?_)
      have hP : va_P D vwCl (wM h q cs fh 0 fb fl fg fr k) H := hP
      have hD : va_D A (wM h q cs fh 0 fb fl fg fr k) := hD
      refine rb_top (y := (-2)) rfl ?_
      refine lv_istore_n (lv' := [(1, .int ((-2))), (0, .ref h)]) hx hb dX1_give_14 rfl hl (by decide) rfl (fun ls hl => ?_)
      refine lv_iload_n hx hb dX1_give_15 rfl (lv_at hl 0 rfl) ?_
      refine lv_if_ge (tgt := 21) hx hb dX1_give_16 (by decide) (fun c1 => ?_) (fun c1 => ?_)
      · exact absurd c1 (by decide)
      · refine lv_iload_n hx hb dX1_give_19 rfl (lv_at hl 0 rfl) ?_
        refine rb_top (y := (-2)) rfl ?_
        exact hret _ _ _ _ dX1_give_20 hP hD hS
  · rw [show (0 : Int32) = nI 0 from rfl] at c0
    rw [nI_eq (by omega) (by omega)] at c0
    rw [rn_gv_0 c0] at hret
    refine lv_bipush (v := (-3)) hx hb dX1_give_7 (by decide) ?_
    refine rb_top (y := (-3)) rfl ?_
    exact hret _ _ _ _ dX1_give_9 hP hD hS
abbrev rmX1_refer : Room := { frames := 2, cells := 0, slots := 0, locals := 46 }
set_option maxHeartbeats 4000000 in
set_option maxRecDepth 100000 in
theorem kX1_refer (l : Launch) (D : va_G) (h : Nat) (q : Nat → Nat) (cs : Nat → ClassId) (fh : Nat → Int32) (n : Nat) (fb fl fg fr : Nat → Int32) (k : Nat) (hn : n ≤ 60) (hk : k ≤ 200) (sz : Nat) (hby : ∀ i, (fh i).toInt8.toInt32 = fh i) (hbb : ∀ i, (fb i).toInt8.toInt32 = fb i) (hu : ∀ a b, a < b → b < k → rn_mt fh n fb fl a = true → rn_mt fh n fb fl b = true → False) : Met l yX1_refer wsX1_refer rmX1_refer (wr_P D vwCl (tM cs) [.ref h] (wM h q cs fh n fb fl fg fr k) sz) (wr_Q D vwCl (tM cs) (wM h q cs fh n fb fl fg fr k) (wN h q cs (rn_rf fh n fb fl fg fr k).2) sz ((rn_rf fh n fb fl fg fr k).1)) 0 0 (va_A (wM h q cs fh n fb fl fg fr k) sz) := by
  refine wr_of (cc := cX1_refer) (maxL := 2) (ty := .int) (by decide) rfl rfl (Nat.le_of_ble_eq_true rfl) ?_
  intro p e s m args below meth c ls Q A hx hb hml hown hts hK hA hP hD hS hl hret
  have hown : s.vm.findClass RX1 = some m.cls := hown
  have hin : ∀ w ∈ wsX10, w ∈ wsX1_refer := by decide +kernel
  have hl : lv_has ls 2 [(0, .ref h)] := hl
  refine lv_aload_n hx hb dX1_refer_0 rfl (lv_at hl 0 rfl) ?_
  refine va_get (D := D) (ci := 1) (v := .int (nI n)) (C := RX1) (T := TX1) (N := 7) hx hb hts hin hown hK hP 0 rfl rfl 1 (by decide) (hts (.fieldLink RX1 25 "ReferredNamesModel" "inHand" "I") (by decide +kernel)) (fun _ h9 => h9) rfl dX1_refer_1 ?_
  refine lv_if_ne (tgt := 10) hx hb dX1_refer_4 (by decide) (fun c0 => ?_) (fun c0 => ?_)
  · rw [show (0 : Int32) = nI 0 from rfl] at c0
    rw [nI_eq (by omega) (by omega)] at c0
    rw [rn_rf_p c0] at hret
    rcases rn_tk_c (fh := fh) (n := n) (fb := fb) (fl := fl) (fg := fg) (fr := fr) hk with ⟨j, hj, e1, e2⟩ | ⟨e1, hlt, e2⟩ | ⟨e1, hlt, e2⟩
    · rw [e2, rn_rs_j (by omega)] at hret
      refine lv_aload_n hx hb dX1_refer_10 rfl (lv_at hl 0 rfl) ?_
      have c9 := kX1_known l D h q cs fh n fb fl fg fr k (by omega) (by omega) s.heap.size hby hbb hu
      rw [e2] at c9
      refine wr_call (ci := 1) (b := h) (As := []) (rest := []) (wr := []) ⟨hx, hb, hml, hown, hts⟩ (c9) (cwV 0 hts gX1_refer_X1_known rfl rfl rfl (by decide +kernel) ⟨Nat.le_of_ble_eq_true rfl, Nat.le_of_ble_eq_true rfl⟩) hK hP hD hS hA [0, 1, 2, 3, 4, 5] [] rfl rfl (by decide) (by decide) (by decide) rfl rfl rfl rfl hl.1 rfl (Nat.le_of_ble_eq_true rfl) dX1_refer_11 ⟨Nat.le_of_ble_eq_true rfl, Nat.le_of_ble_eq_true rfl⟩ (fun H locs hP hD hS => ?_)
      have hP : va_P D vwCl (wM h q cs fh 0 fb fl fg fr k) H := hP
      have hD : va_D A (wM h q cs fh 0 fb fl fg fr k) := hD
      refine rb_top (y := nI j) rfl ?_
      refine lv_istore_n (lv' := [(1, .int (nI j)), (0, .ref h)]) hx hb dX1_refer_14 rfl hl (by decide) rfl (fun ls hl => ?_)
      refine lv_iload_n hx hb dX1_refer_15 rfl (lv_at hl 0 rfl) ?_
      refine lv_if_lt (tgt := 33) hx hb dX1_refer_16 (by decide) (fun c1 => ?_) (fun c1 => ?_)
      · rw [show (0 : Int32) = nI 0 from rfl] at c1
        rw [nI_ltI (by omega) (by omega)] at c1
        exfalso; omega
      · rw [show (0 : Int32) = nI 0 from rfl] at c1
        rw [nI_ltI (by omega) (by omega)] at c1
        refine lv_aload_n hx hb dX1_refer_19 rfl (lv_at hl 1 rfl) ?_
        refine va_get (D := D) (ci := 1) (v := .ref (q 5)) (C := RX1) (T := TX1) (N := 7) hx hb hts hin hown hK hP 0 rfl rfl 5 (by decide) (hts (.fieldLink RX1 22 "ReferredNamesModel" "referred" "[I") (by decide +kernel)) (fun _ h9 => h9) rfl dX1_refer_20 ?_
        refine lv_iload_n hx hb dX1_refer_23 rfl (lv_at hl 0 rfl) ?_
        refine lv_aload_n hx hb dX1_refer_24 rfl (lv_at hl 1 rfl) ?_
        refine va_get (D := D) (ci := 1) (v := .ref (q 5)) (C := RX1) (T := TX1) (N := 7) hx hb hts hin hown hK hP 0 rfl rfl 5 (by decide) (hts (.fieldLink RX1 22 "ReferredNamesModel" "referred" "[I") (by decide +kernel)) (fun _ h9 => h9) rfl dX1_refer_25 ?_
        refine lv_iload_n hx hb dX1_refer_28 rfl (lv_at hl 0 rfl) ?_
        refine rb_ild hx hb hK hP 5 4 rfl rfl (i := j) (by omega) (by decide) dX1_refer_29 ?_
        refine lv_iconst (v := nI 1) hx hb dX1_refer_30 (by decide) ?_
        refine lv_iadd hx hb dX1_refer_31 ?_
        refine rb_ist hx hb hK hP hD hS 5 4 rfl rfl (i := j) (by omega) (by decide) dX1_refer_32 (fun H locs hP hD hS => ?_)
        have hP : va_P D vwCl (wM h q cs fh 0 fb fl fg (upd fr j ((fr j) + (nI 1))) k) H := hP
        have hD : va_D A (wM h q cs fh 0 fb fl fg (upd fr j ((fr j) + (nI 1))) k) := hD
        refine lv_iload_n hx hb dX1_refer_33 rfl (lv_at hl 0 rfl) ?_
        refine rb_top (y := nI j) rfl ?_
        exact hret _ _ _ _ dX1_refer_34 hP hD hS
    · rw [e2, rn_rs_j (by omega)] at hret
      refine lv_aload_n hx hb dX1_refer_10 rfl (lv_at hl 0 rfl) ?_
      have c9 := kX1_known l D h q cs fh n fb fl fg fr k (by omega) (by omega) s.heap.size hby hbb hu
      rw [e2] at c9
      refine wr_call (ci := 1) (b := h) (As := []) (rest := []) (wr := []) ⟨hx, hb, hml, hown, hts⟩ (c9) (cwV 0 hts gX1_refer_X1_known rfl rfl rfl (by decide +kernel) ⟨Nat.le_of_ble_eq_true rfl, Nat.le_of_ble_eq_true rfl⟩) hK hP hD hS hA [0, 1, 2, 3, 4, 5] [] rfl rfl (by decide) (by decide) (by decide) rfl rfl rfl rfl hl.1 rfl (Nat.le_of_ble_eq_true rfl) dX1_refer_11 ⟨Nat.le_of_ble_eq_true rfl, Nat.le_of_ble_eq_true rfl⟩ (fun H locs hP hD hS => ?_)
      have hP : va_P D vwCl (wM h q cs fh 0 (va_cpy fh fb 0 (k * 60) n) (upd fl k (nI n)) (upd fg k (nI 0)) (upd fr k (nI 0)) (k + 1)) H := hP
      have hD : va_D A (wM h q cs fh 0 (va_cpy fh fb 0 (k * 60) n) (upd fl k (nI n)) (upd fg k (nI 0)) (upd fr k (nI 0)) (k + 1)) := hD
      refine rb_top (y := nI k) rfl ?_
      refine lv_istore_n (lv' := [(1, .int (nI k)), (0, .ref h)]) hx hb dX1_refer_14 rfl hl (by decide) rfl (fun ls hl => ?_)
      refine lv_iload_n hx hb dX1_refer_15 rfl (lv_at hl 0 rfl) ?_
      refine lv_if_lt (tgt := 33) hx hb dX1_refer_16 (by decide) (fun c1 => ?_) (fun c1 => ?_)
      · rw [show (0 : Int32) = nI 0 from rfl] at c1
        rw [nI_ltI (by omega) (by omega)] at c1
        exfalso; omega
      · rw [show (0 : Int32) = nI 0 from rfl] at c1
        rw [nI_ltI (by omega) (by omega)] at c1
        refine lv_aload_n hx hb dX1_refer_19 rfl (lv_at hl 1 rfl) ?_
        refine va_get (D := D) (ci := 1) (v := .ref (q 5)) (C := RX1) (T := TX1) (N := 7) hx hb hts hin hown hK hP 0 rfl rfl 5 (by decide) (hts (.fieldLink RX1 22 "ReferredNamesModel" "referred" "[I") (by decide +kernel)) (fun _ h9 => h9) rfl dX1_refer_20 ?_
        refine lv_iload_n hx hb dX1_refer_23 rfl (lv_at hl 0 rfl) ?_
        refine lv_aload_n hx hb dX1_refer_24 rfl (lv_at hl 1 rfl) ?_
        refine va_get (D := D) (ci := 1) (v := .ref (q 5)) (C := RX1) (T := TX1) (N := 7) hx hb hts hin hown hK hP 0 rfl rfl 5 (by decide) (hts (.fieldLink RX1 22 "ReferredNamesModel" "referred" "[I") (by decide +kernel)) (fun _ h9 => h9) rfl dX1_refer_25 ?_
        refine lv_iload_n hx hb dX1_refer_28 rfl (lv_at hl 0 rfl) ?_
        refine rb_ild hx hb hK hP 5 4 rfl rfl (i := k) (by omega) (by decide) dX1_refer_29 ?_
        refine lv_iconst (v := nI 1) hx hb dX1_refer_30 (by decide) ?_
        refine lv_iadd hx hb dX1_refer_31 ?_
        refine rb_ist hx hb hK hP hD hS 5 4 rfl rfl (i := k) (by omega) (by decide) dX1_refer_32 (fun H locs hP hD hS => ?_)
        have hP : va_P D vwCl (wM h q cs fh 0 (va_cpy fh fb 0 (k * 60) n) (upd fl k (nI n)) (upd fg k (nI 0)) (upd (upd fr k (nI 0)) k (((upd fr k (nI 0)) k) + (nI 1))) (k + 1)) H := hP
        have hD : va_D A (wM h q cs fh 0 (va_cpy fh fb 0 (k * 60) n) (upd fl k (nI n)) (upd fg k (nI 0)) (upd (upd fr k (nI 0)) k (((upd fr k (nI 0)) k) + (nI 1))) (k + 1)) := hD
        refine lv_iload_n hx hb dX1_refer_33 rfl (lv_at hl 0 rfl) ?_
        refine rb_top (y := nI k) rfl ?_
        exact hret _ _ _ _ dX1_refer_34 hP hD hS
    · rw [e2, rn_rs_n] at hret
      refine lv_aload_n hx hb dX1_refer_10 rfl (lv_at hl 0 rfl) ?_
      have c9 := kX1_known l D h q cs fh n fb fl fg fr k (by omega) (by omega) s.heap.size hby hbb hu
      rw [e2] at c9
      refine wr_call (ci := 1) (b := h) (As := []) (rest := []) (wr := []) ⟨hx, hb, hml, hown, hts⟩ (c9) (cwV 0 hts gX1_refer_X1_known rfl rfl rfl (by decide +kernel) ⟨Nat.le_of_ble_eq_true rfl, Nat.le_of_ble_eq_true rfl⟩) hK hP hD hS hA [0, 1, 2, 3, 4, 5] [] rfl rfl (by decide) (by decide) (by decide) rfl rfl rfl rfl hl.1 rfl (Nat.le_of_ble_eq_true rfl) dX1_refer_11 ⟨Nat.le_of_ble_eq_true rfl, Nat.le_of_ble_eq_true rfl⟩ (fun H locs hP hD hS => ?_)
      have hP : va_P D vwCl (wM h q cs fh 0 fb fl fg fr k) H := hP
      have hD : va_D A (wM h q cs fh 0 fb fl fg fr k) := hD
      refine rb_top (y := (-2)) rfl ?_
      refine lv_istore_n (lv' := [(1, .int ((-2))), (0, .ref h)]) hx hb dX1_refer_14 rfl hl (by decide) rfl (fun ls hl => ?_)
      refine lv_iload_n hx hb dX1_refer_15 rfl (lv_at hl 0 rfl) ?_
      refine lv_if_lt (tgt := 33) hx hb dX1_refer_16 (by decide) (fun c1 => ?_) (fun c1 => ?_)
      · refine lv_iload_n hx hb dX1_refer_33 rfl (lv_at hl 0 rfl) ?_
        refine rb_top (y := (-2)) rfl ?_
        exact hret _ _ _ _ dX1_refer_34 hP hD hS
      · exact absurd (by decide) c1
  · rw [show (0 : Int32) = nI 0 from rfl] at c0
    rw [nI_eq (by omega) (by omega)] at c0
    rw [rn_rf_0 c0] at hret
    refine lv_bipush (v := (-3)) hx hb dX1_refer_7 (by decide) ?_
    refine rb_top (y := (-3)) rfl ?_
    exact hret _ _ _ _ dX1_refer_9 hP hD hS
abbrev rmX1_clear : Room := { frames := 0, cells := 0, slots := 0, locals := 0 }
set_option maxHeartbeats 4000000 in
set_option maxRecDepth 100000 in
theorem kX1_clear (l : Launch) (D : va_G) (h : Nat) (q : Nat → Nat) (cs : Nat → ClassId) (fh : Nat → Int32) (n : Nat) (fb fl fg fr : Nat → Int32) (k : Nat) (hn : n ≤ 60) (hk : k ≤ 200) (sz : Nat) : Met l yX1_clear wsX1_clear rmX1_clear (wr_P D vwCl (tM cs) [.ref h] (wM h q cs fh n fb fl fg fr k) sz) (wr_Q D vwCl (tM cs) (wM h q cs fh n fb fl fg fr k) (wM h q cs fh 0 fb fl fg fr 0) sz (nI k)) 0 0 (va_A (wM h q cs fh n fb fl fg fr k) sz) := by
  refine wr_of (cc := cX1_clear) (maxL := 2) (ty := .int) (by decide) rfl rfl (Nat.le_of_ble_eq_true rfl) ?_
  intro p e s m args below meth c ls Q A hx hb hml hown hts hK hA hP hD hS hl hret
  have hown : s.vm.findClass RX1 = some m.cls := hown
  have hin : ∀ w ∈ wsX10, w ∈ wsX1_clear := by decide +kernel
  have hl : lv_has ls 2 [(0, .ref h)] := hl
  refine lv_aload_n hx hb dX1_clear_0 rfl (lv_at hl 0 rfl) ?_
  refine va_get (D := D) (ci := 1) (v := .int (nI k)) (C := RX1) (T := TX1) (N := 7) hx hb hts hin hown hK hP 0 rfl rfl 6 (by decide) (hts (.fieldLink RX1 31 "ReferredNamesModel" "known" "I") (by decide +kernel)) (fun _ h9 => h9) rfl dX1_clear_1 ?_
  refine lv_istore_n (lv' := [(1, .int (nI k)), (0, .ref h)]) hx hb dX1_clear_4 rfl hl (by decide) rfl (fun ls hl => ?_)
  refine lv_aload_n hx hb dX1_clear_5 rfl (lv_at hl 1 rfl) ?_
  refine lv_iconst (v := nI 0) hx hb dX1_clear_6 (by decide) ?_
  refine va_put (D := D) (ci := 1) (v := .int (nI 0)) (ty := .int) (C := RX1) (T := TX1) (N := 7) hx hb hts hin tyX1 tyX1_ok nmX1 hown hK hP hD hS 0 rfl rfl 6 (by decide) (hts (.fieldLink RX1 31 "ReferredNamesModel" "known" "I") (by decide +kernel)) (fun _ h9 => h9) rfl (by decide +kernel) rfl rfl (Nat.le_of_ble_eq_true rfl) dX1_clear_7 (fun H locs hP hD hS => ?_)
  have hP : va_P D vwCl (wM h q cs fh n fb fl fg fr 0) H := hP
  have hD : va_D A (wM h q cs fh n fb fl fg fr 0) := hD
  refine lv_aload_n hx hb dX1_clear_10 rfl (lv_at hl 1 rfl) ?_
  refine lv_iconst (v := nI 0) hx hb dX1_clear_11 (by decide) ?_
  refine va_put (D := D) (ci := 1) (v := .int (nI 0)) (ty := .int) (C := RX1) (T := TX1) (N := 7) hx hb hts hin tyX1 tyX1_ok nmX1 hown hK hP hD hS 0 rfl rfl 1 (by decide) (hts (.fieldLink RX1 25 "ReferredNamesModel" "inHand" "I") (by decide +kernel)) (fun _ h9 => h9) rfl (by decide +kernel) rfl rfl (Nat.le_of_ble_eq_true rfl) dX1_clear_12 (fun H locs hP hD hS => ?_)
  have hP : va_P D vwCl (wM h q cs fh 0 fb fl fg fr 0) H := hP
  have hD : va_D A (wM h q cs fh 0 fb fl fg fr 0) := hD
  refine lv_iload_n hx hb dX1_clear_15 rfl (lv_at hl 0 rfl) ?_
  refine rb_top (y := nI k) rfl ?_
  exact hret _ _ _ _ dX1_clear_16 hP hD hS
