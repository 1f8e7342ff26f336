/-! Pure words of mine: what its methods answer, out of the numbers that its cells hold. -/
def rn_b (b : Bool) : Int32 := if b = true then 1 else 0
theorem rn_b_nar (b : Bool) : narrow .boolean (.int (rn_b b)) = .int (rn_b b) := by cases b <;> rfl
theorem rn_b_ne {b : Bool} (h : ¬ rn_b b = 0) : b = true := by
  cases b with
  | false => exact absurd rfl h
  | true => rfl
theorem rn_b_eq {b : Bool} (h : rn_b b = 0) : b = false := by
  cases b with
  | false => rfl
  | true => exact absurd h (by decide)
theorem rn_b1 {b : Bool} (h : b = true) : nI 1 = rn_b b := by rw [h]; rfl
theorem rn_b0 {b : Bool} (h : b = false) : nI 0 = rn_b b := by rw [h]; rfl
/-- x is a number below k -/
def rn_kn (x : Int32) (k : Nat) : Bool := decide (0 ≤ x ∧ x < nI k)
theorem rn_kn_t {x : Int32} {k : Nat} (hk : k < 2 ^ 31) (h : rn_kn x k = true) : ∃ j : Nat, j < k ∧ x = nI j := by
  obtain ⟨h1, h2⟩ := of_decide_eq_true h
  rcases pk_ix x hk with q | q | q
  · rw [Int32.le_iff_toInt_le] at h1
    rw [Int32.lt_iff_toInt_lt] at q
    omega
  · rw [Int32.lt_iff_toInt_lt] at h2
    rw [Int32.le_iff_toInt_le] at q
    omega
  · exact q
theorem rn_kn_of {j k : Nat} (h : j < k) (hk : k < 2 ^ 31) : rn_kn (nI j) k = true := decide_eq_true ⟨nI_pos' (by omega), nI_lt h hk⟩
theorem rn_kn_f1 {x : Int32} {k : Nat} (h : x < 0) : rn_kn x k = false := decide_eq_false (fun q => by
  have q1 := q.1
  rw [Int32.le_iff_toInt_le] at q1
  rw [Int32.lt_iff_toInt_lt] at h
  omega)
theorem rn_kn_f2 {x : Int32} {k : Nat} (h : nI k ≤ x) : rn_kn x k = false := decide_eq_false (fun q => by
  have q1 := q.2
  rw [Int32.lt_iff_toInt_lt] at q1
  rw [Int32.le_iff_toInt_le] at h
  omega)
theorem rn_kn_tt {x : Int32} {k : Nat} (h : ¬ x < 0) (h2 : ¬ nI k ≤ x) : rn_kn x k = true := decide_eq_true (by
  rw [Int32.lt_iff_toInt_lt] at h
  rw [Int32.le_iff_toInt_le] at h2
  constructor
  · rw [Int32.le_iff_toInt_le]; omega
  · rw [Int32.lt_iff_toInt_lt]; omega)
/-- the first place from j on, in f steps, at which P holds; -1: none -/
def rn_ff (P : Nat → Bool) : Nat → Nat → Int32
  | 0, _ => -1
  | f + 1, j => if P j = true then nI j else rn_ff P f (j + 1)
/-- a sum over f places from j on -/
def rn_fo (g : Nat → Int32 → Int32) : Nat → Nat → Int32 → Int32
  | 0, _, a => a
  | f + 1, j, a => rn_fo g f (j + 1) (g j a)
theorem rn_ff_t {P : Nat → Bool} {f j : Nat} (h : P j = true) : rn_ff P (f + 1) j = nI j := by simp [rn_ff, h]
theorem rn_ff_f {P : Nat → Bool} {f j : Nat} (h : P j = false) : rn_ff P (f + 1) j = rn_ff P f (j + 1) := by simp [rn_ff, h]
theorem rn_ff_or (P : Nat → Bool) : ∀ (f j : Nat), (rn_ff P f j = -1 ∧ ∀ x, j ≤ x → x < j + f → P x = false) ∨ ∃ x, j ≤ x ∧ x < j + f ∧ P x = true ∧ rn_ff P f j = nI x ∧ ∀ z, j ≤ z → z < x → P z = false
  | 0, j => Or.inl ⟨rfl, fun x h1 h2 => absurd h2 (by omega)⟩
  | f + 1, j => by
    cases h : P j with
    | true => exact Or.inr ⟨j, Nat.le_refl j, by omega, h, rn_ff_t h, fun z h1 h2 => absurd h2 (by omega)⟩
    | false =>
      rcases rn_ff_or P f (j + 1) with ⟨a1, a2⟩ | ⟨x, b1, b2, b3, b4, b5⟩
      · refine Or.inl ⟨by rw [rn_ff_f h]; exact a1, fun x h1 h2 => ?_⟩
        rcases Nat.eq_or_lt_of_le h1 with q | q
        · rw [← q]; exact h
        · exact a2 x q (by omega)
      · refine Or.inr ⟨x, by omega, by omega, b3, by rw [rn_ff_f h]; exact b4, fun z h1 h2 => ?_⟩
        rcases Nat.eq_or_lt_of_le h1 with q | q
        · rw [← q]; exact h
        · exact b5 z q h2
/-- name j is the one in hand -/
def rn_mt (fh : Nat → Int32) (n : Nat) (fb fl : Nat → Int32) (j : Nat) : Bool := decide (fl j = nI n ∧ ∀ i, i < n → fb (j * 60 + i) = fh i)
def rn_gi (fg : Nat → Int32) (j : Nat) : Bool := decide (¬ fg j = 0)
def rn_mi (fg fr : Nat → Int32) (j : Nat) : Bool := decide (¬ fr j = 0 ∧ fg j = 0)
/-- the byte of v that has f behind it -/
def rn_by (v : Int64) (f : Nat) : Int32 := ((v.toUInt64 >>> ((nI (8 * f)).toInt64.toUInt64 &&& Int64.toUInt64 63)).toInt64).toInt32.toInt8.toInt32
def rn_pu (v : Int64) : Nat → Nat → (Nat → Int32) → (Nat → Int32)
  | 0, _, fh => fh
  | f + 1, n, fh => rn_pu v f (n + 1) (upd fh n (rn_by v f))
theorem rn_cpy_s (f g : Nat → Int32) (d i : Nat) : upd (va_cpy f g 0 d i) (d + i) (f i) = va_cpy f g 0 d (i + 1) := by
  funext x
  by_cases h : x = d + i
  · subst h
    rw [pk_us, pk_cpy_in (by omega) (by omega)]
    congr 1
    omega
  · rw [pk_un h]
    by_cases h2 : d ≤ x ∧ x < d + i
    · rw [pk_cpy_in h2.1 h2.2, pk_cpy_in h2.1 (by omega)]
    · rw [pk_cpy_out (by omega), pk_cpy_out (by omega)]
theorem rn_cpy_0 (f g : Nat → Int32) (d : Nat) : va_cpy f g 0 d 0 = g := by
  funext x
  exact pk_cpy_out (by omega)
/-- a switch over 0 .. 3, over 0 .. 5 -/
theorem rn_sw {x : Int32} {n : Nat} (hn : n < 2 ^ 31) : (∃ j : Nat, j < n ∧ x = nI j) ∨ (x.toInt < 0 ∨ (n : Int) - 1 < x.toInt) := by
  rcases pk_ix x hn with q | q | q
  · refine Or.inr (Or.inl ?_)
    rw [Int32.lt_iff_toInt_lt] at q
    exact q
  · refine Or.inr (Or.inr ?_)
    rw [Int32.le_iff_toInt_le, nI_toInt hn] at q
    omega
  · exact Or.inl q
/-- its state: hand, its length, bytes, lengths, givings, referrals, how many are known -/
abbrev rn_S : Type := (Nat → Int32) × Nat × (Nat → Int32) × (Nat → Int32) × (Nat → Int32) × (Nat → Int32) × Nat
def rn_g1 (fg : Nat → Int32) (j : Nat) (a : Int32) : Int32 := if rn_gi fg j = true then a + 1 else a
def rn_g2 (fg fr : Nat → Int32) (j : Nat) (a : Int32) : Int32 := if rn_mi fg fr j = true then a + 1 else a
def rn_g3 (fg : Nat → Int32) (j : Nat) (a : Int32) : Int32 := if rn_gi fg j = true then a + (fg j - 1) else a
theorem rn_g1_t {fg : Nat → Int32} {j : Nat} {a : Int32} (h : rn_gi fg j = true) : rn_g1 fg j a = a + 1 := if_pos h
theorem rn_g1_f {fg : Nat → Int32} {j : Nat} {a : Int32} (h : rn_gi fg j = false) : rn_g1 fg j a = a := if_neg (by rw [h]; decide)
theorem rn_g2_t {fg fr : Nat → Int32} {j : Nat} {a : Int32} (h : rn_mi fg fr j = true) : rn_g2 fg fr j a = a + 1 := if_pos h
theorem rn_g2_f {fg fr : Nat → Int32} {j : Nat} {a : Int32} (h : rn_mi fg fr j = false) : rn_g2 fg fr j a = a := if_neg (by rw [h]; decide)
theorem rn_g3_t {fg : Nat → Int32} {j : Nat} {a : Int32} (h : rn_gi fg j = true) : rn_g3 fg j a = a + (fg j - 1) := if_pos h
theorem rn_g3_f {fg : Nat → Int32} {j : Nat} {a : Int32} (h : rn_gi fg j = false) : rn_g3 fg j a = a := if_neg (by rw [h]; decide)
theorem rn_fo_s {g : Nat → Int32 → Int32} {f j : Nat} {a b : Int32} (h : g j a = b) : rn_fo g (f + 1) j a = rn_fo g f (j + 1) b := by
  rw [← h]; rfl
theorem rn_out {w : Int32} {n i : Nat} (h : w.toInt < 0 ∨ (n : Int) - 1 < w.toInt) (hi : i < n) (hn : n < 2 ^ 31) : ¬ w = nI i := by
  intro q
  rw [q, nI_toInt (by omega)] at h
  omega
def rn_look (fl fg fr : Nat → Int32) (k : Nat) (x w : Int32) : Int32 := if rn_kn x k = true then (if w = nI 0 then fg x.toNatClampNeg else if w = nI 1 then fr x.toNatClampNeg else if w = nI 2 then fl x.toNatClampNeg else if w = nI 3 then rn_ff (rn_mi fg fr) (k - (x.toNatClampNeg + 1)) (x.toNatClampNeg + 1) else -1) else -1
section LK
variable {fh fl fg fr fb : Nat → Int32} {k j n : Nat} {x w : Int32}
theorem rn_look_f (h : rn_kn x k = false) : rn_look fl fg fr k x w = -1 := if_neg (by rw [h]; decide)
theorem rn_look_0 (h : j < k) (hk : k < 2 ^ 31) : rn_look fl fg fr k (nI j) (nI 0) = fg j := by
  unfold rn_look; rw [if_pos (rn_kn_of h hk), nI_clamp (by omega), if_pos rfl]
theorem rn_look_1 (h : j < k) (hk : k < 2 ^ 31) : rn_look fl fg fr k (nI j) (nI 1) = fr j := by
  unfold rn_look; rw [if_pos (rn_kn_of h hk), nI_clamp (by omega), if_neg (by decide), if_pos rfl]
theorem rn_look_2 (h : j < k) (hk : k < 2 ^ 31) : rn_look fl fg fr k (nI j) (nI 2) = fl j := by
  unfold rn_look; rw [if_pos (rn_kn_of h hk), nI_clamp (by omega), if_neg (by decide), if_neg (by decide), if_pos rfl]
theorem rn_look_3 (h : j < k) (hk : k < 2 ^ 31) : rn_look fl fg fr k (nI j) (nI 3) = rn_ff (rn_mi fg fr) (k - (j + 1)) (j + 1) := by
  unfold rn_look; rw [if_pos (rn_kn_of h hk), nI_clamp (by omega), if_neg (by decide), if_neg (by decide), if_neg (by decide), if_pos rfl]
theorem rn_look_d (h : w.toInt < 0 ∨ ((4 : Nat) : Int) - 1 < w.toInt) : rn_look fl fg fr k x w = -1 := by
  unfold rn_look
  rw [if_neg (rn_out h (by decide) (by decide)), if_neg (rn_out h (by decide) (by decide)), if_neg (rn_out h (by decide) (by decide)), if_neg (rn_out h (by decide) (by decide))]
  split <;> rfl
end LK
def rn_bo (fb fl : Nat → Int32) (k : Nat) (x i : Int32) : Int32 := if rn_kn x k = true ∧ ¬ i < 0 ∧ i < fl x.toNatClampNeg then fb (x.toNatClampNeg * 60 + i.toNatClampNeg) &&& nI 255 else -1
def rn_cnt (n : Nat) (fg fr : Nat → Int32) (k : Nat) (w : Int32) : Int32 := if w = nI 0 then nI k else if w = nI 1 then rn_fo (rn_g1 fg) k 0 0 else if w = nI 2 then rn_fo (rn_g2 fg fr) k 0 0 else if w = nI 3 then rn_fo (rn_g3 fg) k 0 0 else if w = nI 4 then nI n else if w = nI 5 then rn_ff (rn_mi fg fr) k 0 else -1
section CN
variable {fg fr : Nat → Int32} {k n : Nat} {w : Int32}
theorem rn_cnt_0 : rn_cnt n fg fr k (nI 0) = nI k := if_pos rfl
theorem rn_cnt_1 : rn_cnt n fg fr k (nI 1) = rn_fo (rn_g1 fg) k 0 0 := by
  unfold rn_cnt; rw [if_neg (by decide), if_pos rfl]
theorem rn_cnt_2 : rn_cnt n fg fr k (nI 2) = rn_fo (rn_g2 fg fr) k 0 0 := by
  unfold rn_cnt; rw [if_neg (by decide), if_neg (by decide), if_pos rfl]
theorem rn_cnt_3 : rn_cnt n fg fr k (nI 3) = rn_fo (rn_g3 fg) k 0 0 := by
  unfold rn_cnt; rw [if_neg (by decide), if_neg (by decide), if_neg (by decide), if_pos rfl]
theorem rn_cnt_4 : rn_cnt n fg fr k (nI 4) = nI n := by
  unfold rn_cnt; rw [if_neg (by decide), if_neg (by decide), if_neg (by decide), if_neg (by decide), if_pos rfl]
theorem rn_cnt_5 : rn_cnt n fg fr k (nI 5) = rn_ff (rn_mi fg fr) k 0 := by
  unfold rn_cnt; rw [if_neg (by decide), if_neg (by decide), if_neg (by decide), if_neg (by decide), if_neg (by decide), if_pos rfl]
theorem rn_cnt_d (h : w.toInt < 0 ∨ ((6 : Nat) : Int) - 1 < w.toInt) : rn_cnt n fg fr k w = -1 := by
  unfold rn_cnt
  rw [if_neg (rn_out h (by decide) (by decide)), if_neg (rn_out h (by decide) (by decide)), if_neg (rn_out h (by decide) (by decide)), if_neg (rn_out h (by decide) (by decide)), if_neg (rn_out h (by decide) (by decide)), if_neg (rn_out h (by decide) (by decide))]
end CN
/-- what the methods that write answer, and the state behind them -/
def rn_le (fh : Nat → Int32) (n : Nat) (fb fl fg fr : Nat → Int32) (k : Nat) : Int32 × rn_S := if k < 200 then (nI k, fh, n, va_cpy fh fb 0 (k * 60) n, upd fl k (nI n), upd fg k (nI 0), upd fr k (nI 0), k + 1) else (-2, fh, n, fb, fl, fg, fr, k)
def rn_tk (fh : Nat → Int32) (n : Nat) (fb fl fg fr : Nat → Int32) (k : Nat) : Int32 × rn_S := if rn_ff (rn_mt fh n fb fl) k 0 = -1 then ((rn_le fh n fb fl fg fr k).1, (rn_le fh n fb fl fg fr k).2.1, 0, (rn_le fh n fb fl fg fr k).2.2.2) else (rn_ff (rn_mt fh n fb fl) k 0, fh, 0, fb, fl, fg, fr, k)
def rn_gs (t : Int32 × rn_S) : Int32 × rn_S := if t.1 < 0 then t else ((if rn_gi t.2.2.2.2.2.1 t.1.toNatClampNeg = true then -1 else t.1), t.2.1, t.2.2.1, t.2.2.2.1, t.2.2.2.2.1, upd t.2.2.2.2.2.1 t.1.toNatClampNeg (t.2.2.2.2.2.1 t.1.toNatClampNeg + nI 1), t.2.2.2.2.2.2.1, t.2.2.2.2.2.2.2)
def rn_rs (t : Int32 × rn_S) : Int32 × rn_S := if t.1 < 0 then t else (t.1, t.2.1, t.2.2.1, t.2.2.2.1, t.2.2.2.2.1, t.2.2.2.2.2.1, upd t.2.2.2.2.2.2.1 t.1.toNatClampNeg (t.2.2.2.2.2.2.1 t.1.toNatClampNeg + nI 1), t.2.2.2.2.2.2.2)
def rn_gv (fh : Nat → Int32) (n : Nat) (fb fl fg fr : Nat → Int32) (k : Nat) : Int32 × rn_S := if n = 0 then (-3, fh, n, fb, fl, fg, fr, k) else rn_gs (rn_tk fh n fb fl fg fr k)
def rn_rf (fh : Nat → Int32) (n : Nat) (fb fl fg fr : Nat → Int32) (k : Nat) : Int32 × rn_S := if n = 0 then (-3, fh, n, fb, fl, fg, fr, k) else rn_rs (rn_tk fh n fb fl fg fr k)
def rn_pt (v : Int64) (c : Int32) (fh : Nat → Int32) (n : Nat) (fb fl fg fr : Nat → Int32) (k : Nat) : Int32 × rn_S := if c < nI 1 ∨ nI 8 < c ∨ nI (60 - n) < c then (nI 0, fh, n, fb, fl, fg, fr, k) else (nI 1, rn_pu v c.toNatClampNeg n fh, n + c.toNatClampNeg, fb, fl, fg, fr, k)
def rn_cl (fh : Nat → Int32) (fb fl fg fr : Nat → Int32) (k : Nat) : Int32 × rn_S := (nI k, fh, 0, fb, fl, fg, fr, 0)
section WR
variable {fh fb fl fg fr : Nat → Int32} {n k j : Nat}
theorem rn_le_t (h : k < 200) : rn_le fh n fb fl fg fr k = (nI k, fh, n, va_cpy fh fb 0 (k * 60) n, upd fl k (nI n), upd fg k (nI 0), upd fr k (nI 0), k + 1) := if_pos h
theorem rn_le_f (h : ¬ k < 200) : rn_le fh n fb fl fg fr k = (-2, fh, n, fb, fl, fg, fr, k) := if_neg h
theorem rn_tk_c (hk : k ≤ 200) : (∃ j : Nat, j < k ∧ rn_ff (rn_mt fh n fb fl) k 0 = nI j ∧ rn_tk fh n fb fl fg fr k = (nI j, fh, 0, fb, fl, fg, fr, k)) ∨ (rn_ff (rn_mt fh n fb fl) k 0 = -1 ∧ k < 200 ∧ rn_tk fh n fb fl fg fr k = (nI k, fh, 0, va_cpy fh fb 0 (k * 60) n, upd fl k (nI n), upd fg k (nI 0), upd fr k (nI 0), k + 1)) ∨ (rn_ff (rn_mt fh n fb fl) k 0 = -1 ∧ ¬ k < 200 ∧ rn_tk fh n fb fl fg fr k = (-2, fh, 0, fb, fl, fg, fr, k)) := by
  rcases rn_ff_or (rn_mt fh n fb fl) k 0 with ⟨a1, -⟩ | ⟨x, -, b2, -, b4, -⟩
  · refine Or.inr ?_
    by_cases h : k < 200
    · refine Or.inl ⟨a1, h, ?_⟩
      unfold rn_tk; rw [if_pos a1, rn_le_t h]
    · refine Or.inr ⟨a1, h, ?_⟩
      unfold rn_tk; rw [if_pos a1, rn_le_f h]
  · refine Or.inl ⟨x, by omega, b4, ?_⟩
    unfold rn_tk
    rw [b4, if_neg ?_]
    intro q
    have q2 := nI_pos (n := x) (by omega)
    rw [q] at q2
    exact q2 (by decide)
theorem rn_gs_n : rn_gs (-2, fh, n, fb, fl, fg, fr, k) = (-2, fh, n, fb, fl, fg, fr, k) := if_pos (by show (-2 : Int32) < 0; decide)
theorem rn_rs_n : rn_rs (-2, fh, n, fb, fl, fg, fr, k) = (-2, fh, n, fb, fl, fg, fr, k) := if_pos (by show (-2 : Int32) < 0; decide)
theorem rn_gs_j (h : j < 2 ^ 31) : rn_gs (nI j, fh, n, fb, fl, fg, fr, k) = ((if rn_gi fg j = true then -1 else nI j), fh, n, fb, fl, upd fg j (fg j + nI 1), fr, k) := by
  unfold rn_gs
  rw [if_neg (nI_pos h)]
  simp only [nI_clamp h]
theorem rn_rs_j (h : j < 2 ^ 31) : rn_rs (nI j, fh, n, fb, fl, fg, fr, k) = (nI j, fh, n, fb, fl, fg, upd fr j (fr j + nI 1), k) := by
  unfold rn_rs
  rw [if_neg (nI_pos h)]
  simp only [nI_clamp h]
theorem rn_pt_f {v : Int64} {c : Int32} (h : c < nI 1 ∨ nI 8 < c ∨ nI (60 - n) < c) : rn_pt v c fh n fb fl fg fr k = (nI 0, fh, n, fb, fl, fg, fr, k) := if_pos h
theorem rn_pt_t {v : Int64} {c : Nat} (h1 : 1 ≤ c) (h8 : c ≤ 8) (h : c ≤ 60 - n) : rn_pt v (nI c) fh n fb fl fg fr k = (nI 1, rn_pu v c n fh, n + c, fb, fl, fg, fr, k) := by
  unfold rn_pt
  rw [if_neg ?_, nI_clamp (by omega)]
  rw [nI_ltI (by omega) (by omega), nI_ltI (by omega) (by omega), nI_ltI (by omega) (by omega)]
  omega
theorem rn_pt_nar {v : Int64} {c : Int32} : narrow .boolean (.int (rn_pt v c fh n fb fl fg fr k).1) = .int (rn_pt v c fh n fb fl fg fr k).1 := by
  unfold rn_pt
  split
  · exact congrArg Value.int (show nI 0 &&& 1 = nI 0 by decide)
  · exact congrArg Value.int (show nI 1 &&& 1 = nI 1 by decide)
end WR
theorem rn_bo_f {fb fl : Nat → Int32} {k : Nat} {x i : Int32} (h : ¬ (rn_kn x k = true ∧ ¬ i < 0 ∧ i < fl x.toNatClampNeg)) : rn_bo fb fl k x i = -1 := if_neg h
theorem rn_bo_t {fb fl : Nat → Int32} {k j z : Nat} (hj : j < k) (hk : k < 2 ^ 31) (hz : z < 2 ^ 31) (h : nI z < fl j) : rn_bo fb fl k (nI j) (nI z) = fb (j * 60 + z) &&& nI 255 := by
  unfold rn_bo
  rw [nI_clamp (show j < 2 ^ 31 by omega), nI_clamp hz, if_pos ⟨rn_kn_of hj hk, nI_pos hz, h⟩]
theorem rn_i8 (x : Int32) : x.toInt8.toInt32.toInt8.toInt32 = x.toInt8.toInt32 := by
  have h := pk_vb x
  rw [vp_nar_byte] at h
  exact h
theorem rn_by_b (v : Int64) (f : Nat) : (rn_by v f).toInt8.toInt32 = rn_by v f := rn_i8 _
theorem rn_m1 {n : Nat} (h : n < 2 ^ 31) : ¬ nI n = -1 := by
  intro q
  have q2 := nI_pos h
  rw [q] at q2
  exact q2 (by decide)
theorem rn_c {c : Int32} {n : Nat} (h0 : ¬ c < nI 1) (h1 : ¬ nI 8 < c) (h2 : c ≤ nI (60 - n)) : ∃ j : Nat, 1 ≤ j ∧ j ≤ 8 ∧ j ≤ 60 - n ∧ c = nI j := by
  rw [Int32.lt_iff_toInt_lt, nI_toInt (by decide)] at h0 h1
  rcases pk_ix c (n := 9) (by decide) with q | q | ⟨j, hj, rfl⟩
  · rw [Int32.lt_iff_toInt_lt, Int32.toInt_zero] at q
    omega
  · rw [Int32.le_iff_toInt_le, nI_toInt (by decide)] at q
    omega
  · rw [nI_toInt (by omega)] at h0 h1
    rw [nI_leI (by omega) (by omega)] at h2
    exact ⟨j, by omega, by omega, h2, rfl⟩
theorem rn_p1 {c : Nat} (h : 1 ≤ c) : nI c - nI 1 = nI c + (-1) := by
  obtain ⟨d, rfl⟩ : ∃ d, c = d + 1 := ⟨c - 1, by omega⟩
  rw [pk_m1]
  exact nI_pred d
section GV
variable {fh fb fl fg fr : Nat → Int32} {n k : Nat}
theorem rn_gv_0 (h : n = 0) : rn_gv fh n fb fl fg fr k = (-3, fh, n, fb, fl, fg, fr, k) := if_pos h
theorem rn_gv_p (h : ¬ n = 0) : rn_gv fh n fb fl fg fr k = rn_gs (rn_tk fh n fb fl fg fr k) := if_neg h
theorem rn_rf_0 (h : n = 0) : rn_rf fh n fb fl fg fr k = (-3, fh, n, fb, fl, fg, fr, k) := if_pos h
theorem rn_rf_p (h : ¬ n = 0) : rn_rf fh n fb fl fg fr k = rn_rs (rn_tk fh n fb fl fg fr k) := if_neg h
end GV
