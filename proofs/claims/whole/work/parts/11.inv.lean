/-! What stays true of the state between calls; T: a bound of the counts. -/
def rn_I (T : Nat) (fh : Nat → Int32) (n : Nat) (fb fl fg fr : Nat → Int32) (k : Nat) : Prop :=
  n ≤ 60 ∧ k ≤ 200 ∧ (∀ i, (fh i).toInt8.toInt32 = fh i) ∧ (∀ i, (fb i).toInt8.toInt32 = fb i) ∧ (∀ j, j < k → ∃ y : Nat, 1 ≤ y ∧ y ≤ 60 ∧ fl j = nI y) ∧ (∀ j, j < k → ∃ y : Nat, y ≤ T ∧ fg j = nI y) ∧ (∀ j, j < k → ∃ y : Nat, y ≤ T ∧ fr j = nI y) ∧
  ∀ a b y : Nat, a < b → b < k → y ≤ 60 → fl a = nI y → fl b = nI y → ∃ i, i < y ∧ ¬ fb (a * 60 + i) = fb (b * 60 + i)
abbrev rn_J (T : Nat) (u : rn_S) : Prop := rn_I T u.1 u.2.1 u.2.2.1 u.2.2.2.1 u.2.2.2.2.1 u.2.2.2.2.2.1 u.2.2.2.2.2.2
section IV
variable {T T' : Nat} {fh fb fl fg fr : Nat → Int32} {n k j : Nat}
theorem rn_I_mono (h : T ≤ T') (I : rn_I T fh n fb fl fg fr k) : rn_I T' fh n fb fl fg fr k := by
  obtain ⟨h1, h2, h3, h4, h5, h6, h7, h8⟩ := I
  refine ⟨h1, h2, h3, h4, h5, fun j hj => ?_, fun j hj => ?_, h8⟩
  · obtain ⟨y, hy, e⟩ := h6 j hj
    exact ⟨y, Nat.le_trans hy h, e⟩
  · obtain ⟨y, hy, e⟩ := h7 j hj
    exact ⟨y, Nat.le_trans hy h, e⟩
theorem rn_I_len (I : rn_I T fh n fb fl fg fr k) : ∀ j, j < k → ∃ y : Nat, y ≤ 60 ∧ fl j = nI y := fun j hj => by
  obtain ⟨y, _, h2, h3⟩ := I.2.2.2.2.1 j hj
  exact ⟨y, h2, h3⟩
theorem rn_I_g (hT : T < 2 ^ 30) (I : rn_I T fh n fb fl fg fr k) : ∀ j, j < k → ∃ y : Nat, y < 2 ^ 30 ∧ fg j = nI y := fun j hj => by
  obtain ⟨y, h2, h3⟩ := I.2.2.2.2.2.1 j hj
  exact ⟨y, by omega, h3⟩
theorem rn_I_r (hT : T < 2 ^ 30) (I : rn_I T fh n fb fl fg fr k) : ∀ j, j < k → ∃ y : Nat, y < 2 ^ 30 ∧ fr j = nI y := fun j hj => by
  obtain ⟨y, h2, h3⟩ := I.2.2.2.2.2.2.1 j hj
  exact ⟨y, by omega, h3⟩
/-- one match alone -/
theorem rn_I_u (I : rn_I T fh n fb fl fg fr k) : ∀ a b, a < b → b < k → rn_mt fh n fb fl a = true → rn_mt fh n fb fl b = true → False := by
  intro a b hab hb pa pb
  obtain ⟨a1, a2⟩ := of_decide_eq_true pa
  obtain ⟨b1, b2⟩ := of_decide_eq_true pb
  obtain ⟨i, hi, hne⟩ := I.2.2.2.2.2.2.2 a b n hab hb I.1 a1 b1
  exact hne ((a2 i hi).trans (b2 i hi).symm)
theorem rn_I_n {n' : Nat} (hn : n' ≤ 60) (I : rn_I T fh n fb fl fg fr k) : rn_I T fh n' fb fl fg fr k := ⟨hn, I.2⟩
theorem rn_I_h {fh' : Nat → Int32} (hh : ∀ i, (fh' i).toInt8.toInt32 = fh' i) (I : rn_I T fh n fb fl fg fr k) : rn_I T fh' n fb fl fg fr k := ⟨I.1, I.2.1, hh, I.2.2.2⟩
theorem rn_I_cl (I : rn_I T fh n fb fl fg fr k) : rn_I T fh 0 fb fl fg fr 0 := ⟨by omega, by omega, I.2.2.1, I.2.2.2.1, fun j hj => absurd hj (by omega), fun j hj => absurd hj (by omega), fun j hj => absurd hj (by omega), fun a b y h1 h2 => absurd h2 (by omega)⟩
theorem rn_I_give (hj : j < k) (I : rn_I T fh n fb fl fg fr k) : rn_I (T + 1) fh n fb fl (upd fg j (fg j + nI 1)) fr k := by
  obtain ⟨h1, h2, h3, h4, h5, h6, h7, h8⟩ := rn_I_mono (Nat.le_succ T) I
  refine ⟨h1, h2, h3, h4, h5, fun x hx => ?_, h7, h8⟩
  by_cases q : x = j
  · subst q
    obtain ⟨y, hy, e⟩ := I.2.2.2.2.2.1 x hx
    exact ⟨y + 1, by omega, by rw [pk_us, e, nI_add]⟩
  · rw [pk_un q]; exact h6 x hx
theorem rn_I_refer (hj : j < k) (I : rn_I T fh n fb fl fg fr k) : rn_I (T + 1) fh n fb fl fg (upd fr j (fr j + nI 1)) k := by
  obtain ⟨h1, h2, h3, h4, h5, h6, h7, h8⟩ := rn_I_mono (Nat.le_succ T) I
  refine ⟨h1, h2, h3, h4, h5, h6, fun x hx => ?_, h8⟩
  by_cases q : x = j
  · subst q
    obtain ⟨y, hy, e⟩ := I.2.2.2.2.2.2.1 x hx
    exact ⟨y + 1, by omega, by rw [pk_us, e, nI_add]⟩
  · rw [pk_un q]; exact h7 x hx
theorem rn_cpy_lo {i a : Nat} (h : a < k) (hi : i < 60) : va_cpy fh fb 0 (k * 60) n (a * 60 + i) = fb (a * 60 + i) := pk_cpy_out (Or.inl (by omega))
theorem rn_cpy_hi {i : Nat} (hi : i < n) : va_cpy fh fb 0 (k * 60) n (k * 60 + i) = fh i := by
  rw [pk_cpy_in (by omega) (by omega)]
  congr 1
  omega
theorem rn_I_new (hn : ¬ n = 0) (hk : k < 200) (hf : rn_ff (rn_mt fh n fb fl) k 0 = -1) (I : rn_I T fh n fb fl fg fr k) : rn_I T fh 0 (va_cpy fh fb 0 (k * 60) n) (upd fl k (nI n)) (upd fg k (nI 0)) (upd fr k (nI 0)) (k + 1) := by
  obtain ⟨h1, h2, h3, h4, h5, h6, h7, h8⟩ := I
  have hno : ∀ x, x < k → rn_mt fh n fb fl x = false := by
    rcases rn_ff_or (rn_mt fh n fb fl) k 0 with ⟨-, a2⟩ | ⟨x, -, b2, -, b4, -⟩
    · exact fun x hx => a2 x (Nat.zero_le x) (by omega)
    · exact absurd (b4.symm.trans hf) (rn_m1 (by omega))
  refine ⟨by omega, by omega, h3, fun i => ?_, fun j hj => ?_, fun j hj => ?_, fun j hj => ?_, fun a b y hab hb hy ea eb => ?_⟩
  · by_cases q : k * 60 ≤ i ∧ i < k * 60 + n
    · rw [pk_cpy_in q.1 q.2]; exact h3 _
    · rw [pk_cpy_out (by omega)]; exact h4 i
  · by_cases q : j = k
    · exact ⟨n, by omega, h1, by rw [q, pk_us]⟩
    · rw [pk_un q]; exact h5 j (by omega)
  · by_cases q : j = k
    · exact ⟨0, by omega, by rw [q, pk_us]⟩
    · rw [pk_un q]; exact h6 j (by omega)
  · by_cases q : j = k
    · exact ⟨0, by omega, by rw [q, pk_us]⟩
    · rw [pk_un q]; exact h7 j (by omega)
  · rw [pk_un (show a ≠ k by omega)] at ea
    by_cases q : b = k
    · rw [q, pk_us] at eb
      have ey : n = y := (nI_eq (by omega) (by omega)).mp eb
      have hp := of_decide_eq_false (hno a (by omega))
      have hx : ¬ ∀ i, i < n → fb (a * 60 + i) = fh i := fun z => hp ⟨by rw [ea, ey], z⟩
      obtain ⟨i, hi⟩ := Classical.not_forall.mp hx
      obtain ⟨hi1, hi2⟩ := Classical.not_imp.mp hi
      refine ⟨i, by omega, ?_⟩
      rw [rn_cpy_lo (by omega) (by omega), q, rn_cpy_hi hi1]
      exact hi2
    · rw [pk_un q] at eb
      obtain ⟨i, hi, hne⟩ := h8 a b y hab (by omega) hy ea eb
      exact ⟨i, hi, by rw [rn_cpy_lo (by omega) (by omega), rn_cpy_lo (by omega) (by omega)]; exact hne⟩
theorem rn_pu_b (v : Int64) : ∀ (f n : Nat) (fh : Nat → Int32), (∀ i, (fh i).toInt8.toInt32 = fh i) → ∀ i, (rn_pu v f n fh i).toInt8.toInt32 = rn_pu v f n fh i
  | 0, _, _, h => h
  | f + 1, n, fh, h => rn_pu_b v f (n + 1) (upd fh n (rn_by v f)) (fun i => by
    by_cases q : i = n
    · rw [q, pk_us]; exact rn_by_b v f
    · rw [pk_un q]; exact h i)
theorem rn_J_pt {v : Int64} {c : Int32} (I : rn_I T fh n fb fl fg fr k) : rn_J (T + 1) (rn_pt v c fh n fb fl fg fr k).2 := by
  have I1 := rn_I_mono (Nat.le_succ T) I
  by_cases h : c < nI 1 ∨ nI 8 < c ∨ nI (60 - n) < c
  · rw [rn_pt_f h]; exact I1
  · obtain ⟨j, h1, h8, h2, rfl⟩ := rn_c (c := c) (n := n) (fun q => h (Or.inl q)) (fun q => h (Or.inr (Or.inl q))) (Int32.not_lt.mp (fun q => h (Or.inr (Or.inr q))))
    rw [rn_pt_t h1 h8 h2]
    exact rn_I_n (n' := n + j) (by have := I.1; omega) (rn_I_h (rn_pu_b v j n fh I.2.2.1) I1)
theorem rn_J_gv (I : rn_I T fh n fb fl fg fr k) : rn_J (T + 1) (rn_gv fh n fb fl fg fr k).2 := by
  have I1 := rn_I_mono (Nat.le_succ T) I
  have hk := I.2.1
  by_cases h : n = 0
  · rw [rn_gv_0 h]; exact I1
  · rw [rn_gv_p h]
    rcases rn_tk_c (fh := fh) (n := n) (fb := fb) (fl := fl) (fg := fg) (fr := fr) hk with ⟨j, hj, e1, e2⟩ | ⟨e1, hlt, e2⟩ | ⟨e1, hlt, e2⟩
    · rw [e2, rn_gs_j (by omega)]
      exact rn_I_give hj (rn_I_n (n' := 0) (by omega) I)
    · rw [e2, rn_gs_j (by omega)]
      exact rn_I_give (Nat.lt_succ_self k) (rn_I_new h hlt e1 I)
    · rw [e2, rn_gs_n]
      exact rn_I_n (n' := 0) (by omega) I1
theorem rn_J_rf (I : rn_I T fh n fb fl fg fr k) : rn_J (T + 1) (rn_rf fh n fb fl fg fr k).2 := by
  have I1 := rn_I_mono (Nat.le_succ T) I
  have hk := I.2.1
  by_cases h : n = 0
  · rw [rn_rf_0 h]; exact I1
  · rw [rn_rf_p h]
    rcases rn_tk_c (fh := fh) (n := n) (fb := fb) (fl := fl) (fg := fg) (fr := fr) hk with ⟨j, hj, e1, e2⟩ | ⟨e1, hlt, e2⟩ | ⟨e1, hlt, e2⟩
    · rw [e2, rn_rs_j (by omega)]
      exact rn_I_refer hj (rn_I_n (n' := 0) (by omega) I)
    · rw [e2, rn_rs_j (by omega)]
      exact rn_I_refer (Nat.lt_succ_self k) (rn_I_new h hlt e1 I)
    · rw [e2, rn_rs_n]
      exact rn_I_n (n' := 0) (by omega) I1
end IV
theorem rn_I_0 : rn_I 0 (fun _ => 0) 0 (fun _ => 0) (fun _ => 0) (fun _ => 0) (fun _ => 0) 0 := ⟨by omega, by omega, fun _ => show (0 : Int32).toInt8.toInt32 = 0 by decide, fun _ => show (0 : Int32).toInt8.toInt32 = 0 by decide, fun j hj => absurd hj (by omega), fun j hj => absurd hj (by omega), fun j hj => absurd hj (by omega), fun a b y h1 h2 => absurd h2 (by omega)⟩
theorem rn_exit {L i : Nat} (hL : L ≤ 2048) (hi : i ≤ 4000) : nI L - nI 4 < nI i ↔ L < i + 4 := by
  rw [Int32.lt_iff_toInt_lt, pk_sub_toInt (by omega) (by omega), nI_toInt (by omega)]
  omega
