/-! Pure rows for the reference: its loops answer the same words. -/
theorem rn_k_upd {f : Nat → Int32} {i : Nat} {x : Int32} : upd (rn_k f) i (x &&& nI 255) = rn_k (upd f i x) := by
  funext j
  by_cases h : j = i
  · subst h
    show upd (rn_k f) j (x &&& nI 255) j = upd f j x j &&& nI 255
    rw [pk_us, pk_us]
  · show upd (rn_k f) i (x &&& nI 255) j = upd f i x j &&& nI 255
    rw [pk_un h, pk_un h]
    rfl
theorem rn_k_upd2 {f g : Nat → Int32} {i j : Nat} : upd (rn_k f) i (rn_k g j) = rn_k (upd f i (g j)) := rn_k_upd
theorem rn_k_0 : rn_k (fun _ => 0) = fun _ => 0 := by
  funext i
  show (0 : Int32) &&& nI 255 = 0
  decide
/-- two bytes with the same lowest eight bits are one -/
theorem rn_8 {x y : Int32} (hx : x.toInt8.toInt32 = x) (hy : y.toInt8.toInt32 = y) (h : x &&& nI 255 = y &&& nI 255) : x = y := by
  have ex : (x &&& nI 255).toInt8.toInt32 = x := by
    rw [← hx]
    have := sc_b8 (x.toInt8.toBitVec.toNat) (by have := x.toInt8.toBitVec.isLt; omega)
    have e : Int8.ofNat x.toInt8.toBitVec.toNat = x.toInt8 := by
      apply Int8.toBitVec_inj.mp
      simp [Int8.toBitVec_ofNat]
    rw [e] at this
    exact this
  have ey : (y &&& nI 255).toInt8.toInt32 = y := by
    rw [← hy]
    have := sc_b8 (y.toInt8.toBitVec.toNat) (by have := y.toInt8.toBitVec.isLt; omega)
    have e : Int8.ofNat y.toInt8.toBitVec.toNat = y.toInt8 := by
      apply Int8.toBitVec_inj.mp
      simp [Int8.toBitVec_ofNat]
    rw [e] at this
    exact this
  rw [← ex, h, ey]
theorem rn_le0 {x : Int32} (h : ∃ y : Nat, y < 2 ^ 30 ∧ x = nI y) (c : x ≤ 0) : x = 0 := by
  obtain ⟨y, hy, rfl⟩ := h
  rw [show (0 : Int32) = nI 0 from rfl, nI_leI (by omega) (by omega)] at c
  rw [show y = 0 by omega]
  rfl
theorem rn_nle0 {x : Int32} (c : ¬ x ≤ 0) : ¬ x = 0 := fun q => c (by rw [q]; decide)
theorem rn_lt1 {a : Nat} (h : a < 2 ^ 31) : nI a + (-1) < nI a := by
  cases a with
  | zero => decide
  | succ b => rw [pk_m1]; exact nI_lt (by omega) h
theorem rn_s1 (k : Nat) : nI k - nI 1 = nI k + (-1) := by
  cases k with
  | zero => decide
  | succ b => exact rn_p1 (by omega)
theorem rn_ff_bt {P : Nat → Bool} {k x : Nat} (h : x < k) (hp : P x = true) : rn_ff P (k - x) x = nI x := by
  rw [show k - x = (k - (x + 1)) + 1 by omega]
  exact rn_ff_t hp
theorem rn_ff_bf {P : Nat → Bool} {k x : Nat} (h : x < k) (hp : P x = false) : rn_ff P (k - x) x = rn_ff P (k - (x + 1)) (x + 1) := by
  rw [show k - x = (k - (x + 1)) + 1 by omega]
  exact rn_ff_f hp
theorem rn_ff_app (P : Nat → Bool) : ∀ (f j : Nat), P (j + f) = false → rn_ff P (f + 1) j = rn_ff P f j
  | 0, j, h => (rn_ff_f (f := 0) (show P j = false from h)).trans rfl
  | f + 1, j, h => by
    cases hp : P j with
    | true => rw [rn_ff_t hp, rn_ff_t hp]
    | false =>
      rw [rn_ff_f hp, rn_ff_f hp]
      exact rn_ff_app P f (j + 1) (by rw [show j + 1 + f = j + (f + 1) by omega]; exact h)
theorem rn_ff_nil {P : Nat → Bool} : ∀ (f j : Nat), (∀ x, j ≤ x → x < j + f → P x = false) → rn_ff P f j = -1
  | 0, _, _ => rfl
  | f + 1, j, h => by
    rw [rn_ff_f (h j (Nat.le_refl j) (by omega))]
    exact rn_ff_nil f (j + 1) (fun x h1 h2 => h x (by omega) (by omega))
theorem rn_ff_end {P : Nat → Bool} : ∀ (f j : Nat), (∀ x, j ≤ x → x < j + f → P x = false) → P (j + f) = true → rn_ff P (f + 1) j = nI (j + f)
  | 0, _, _, h => rn_ff_t h
  | f + 1, j, h, hp => by
    rw [rn_ff_f (h j (Nat.le_refl j) (by omega)), rn_ff_end f (j + 1) (fun x h1 h2 => h x (by omega) (by omega)) (by rw [show j + 1 + f = j + (f + 1) by omega]; exact hp)]
    rw [show j + 1 + f = j + (f + 1) by omega]
/-- the match is one alone: the last found is the first -/
theorem rn_sn_t {P : Nat → Bool} {j k : Nat} (hj : j < k) (hu : ∀ a b, a < b → b < k → P a = true → P b = true → False) (h : P j = true) : rn_ff P (j + 1) 0 = nI j := by
  have := rn_ff_end (P := P) j 0 (fun x _ h2 => by
    cases hx : P x with
    | false => rfl
    | true => exact (hu x j (by omega) hj hx h).elim) (by rw [Nat.zero_add]; exact h)
  rw [Nat.zero_add] at this
  exact this
theorem rn_sn_f {P : Nat → Bool} {j : Nat} (h : P j = false) : rn_ff P (j + 1) 0 = rn_ff P j 0 := rn_ff_app P j 0 (by rw [Nat.zero_add]; exact h)
/-- name j is like the hand in its first i bytes -/
def rn_mq (fh : Nat → Int32) (n : Nat) (fb fl : Nat → Int32) (j i : Nat) : Bool := decide (fl j = nI n ∧ ∀ x, x < i → fb (j * 60 + x) = fh x)
section MQ
variable {fh fb fl : Nat → Int32} {n j i : Nat}
theorem rn_mq_n : rn_mq fh n fb fl j n = rn_mt fh n fb fl j := rfl
theorem rn_mq_0t (h : fl j = nI n) : rn_mq fh n fb fl j 0 = true := decide_eq_true ⟨h, lt_0⟩
theorem rn_mq_0f (h : ¬ fl j = nI n) : rn_mq fh n fb fl j 0 = false := decide_eq_false (fun q => h q.1)
theorem rn_mq_f (h : rn_mq fh n fb fl j i = false) : rn_mq fh n fb fl j (i + 1) = false := decide_eq_false (fun q => of_decide_eq_false h ⟨q.1, fun x hx => q.2 x (by omega)⟩)
theorem rn_mq_d (h : ¬ rn_k fb (j * 60 + i) = rn_k fh i) : rn_mq fh n fb fl j (i + 1) = false := decide_eq_false (fun q => h (by
  show fb (j * 60 + i) &&& nI 255 = fh i &&& nI 255
  rw [q.2 i (by omega)]))
theorem rn_mq_s (hb : (fb (j * 60 + i)).toInt8.toInt32 = fb (j * 60 + i)) (hh : (fh i).toInt8.toInt32 = fh i) (h : rn_mq fh n fb fl j i = true) (h2 : rn_k fb (j * 60 + i) = rn_k fh i) : rn_mq fh n fb fl j (i + 1) = true := decide_eq_true ⟨(of_decide_eq_true h).1, lt_s (of_decide_eq_true h).2 (rn_8 hb hh h2)⟩
end MQ
theorem rn_gi1 {x : Int32} (h : x + nI 1 = nI 1) : x = 0 := by
  have e := Int32.add_sub_cancel x (nI 1)
  rw [h] at e
  exact e.symm.trans (by decide)
theorem rn_sub1 (a x : Int32) : a + x - nI 1 = a + (x - 1) := by
  rw [show (nI 1) = (1 : Int32) from rfl, Int32.sub_eq_add_neg, Int32.sub_eq_add_neg, Int32.add_assoc]
theorem rn_03 {w : Int32} (h : ¬ w < 0) (h2 : w ≤ nI 3) : ∃ y : Nat, y < 4 ∧ w = nI y := by
  obtain ⟨j, hj, e⟩ := nI_of2 (M := nI 3) (n := 3) (by decide) h h2
  exact ⟨j, by omega, e⟩
theorem rn_out4 {w : Int32} (h : w < 0 ∨ ¬ w ≤ nI 3) : w.toInt < 0 ∨ ((4 : Nat) : Int) - 1 < w.toInt := by
  rw [Int32.lt_iff_toInt_lt, Int32.le_iff_toInt_le, nI_toInt (by decide), Int32.toInt_zero] at h
  omega
theorem rn_g3_m {fg : Nat → Int32} {j : Nat} {a : Int32} (_ : ∃ y : Nat, y < 2 ^ 30 ∧ fg j = nI y) (c : ¬ fg j ≤ nI 1) : rn_g3 fg j a = a + (fg j - 1) := rn_g3_t (decide_eq_true (fun q => c (by rw [q]; decide)))
theorem rn_g3_l {fg : Nat → Int32} {j : Nat} {a : Int32} (h : ∃ y : Nat, y < 2 ^ 30 ∧ fg j = nI y) (c : fg j ≤ nI 1) : rn_g3 fg j a = a := by
  obtain ⟨y, hy, e⟩ := h
  rw [e, nI_leI (by omega) (by omega)] at c
  rcases (show y = 0 ∨ y = 1 by omega) with rfl | rfl
  · exact rn_g3_f (decide_eq_false (fun q => q e))
  · rw [rn_g3_t (decide_eq_true (by rw [e]; decide)), e]
    show a + (nI 1 - 1) = a
    rw [show nI 1 - 1 = (0 : Int32) by decide]
    exact Int32.add_zero a
theorem rn_c2 {c : Int32} (h0 : ¬ c < nI 1) (h1 : ¬ nI 8 < c) : ∃ j : Nat, 1 ≤ j ∧ j ≤ 8 ∧ c = nI j := by
  rw [Int32.lt_iff_toInt_lt, nI_toInt (by decide)] at h0 h1
  rcases pk_ix c (n := 9) (by decide) with q | q | ⟨j, hj, rfl⟩
  · rw [Int32.lt_iff_toInt_lt, Int32.toInt_zero] at q
    omega
  · rw [Int32.le_iff_toInt_le, nI_toInt (by decide)] at q
    omega
  · rw [nI_toInt (by omega)] at h0 h1
    exact ⟨j, by omega, by omega, rfl⟩
/-- the long, shifted by eight bits t times -/
def rn_sh (v : Int64) : Nat → Int64
  | 0 => v
  | t + 1 => rn_sh v t >>> ((nI 8).toInt64 &&& 63)
theorem rn_sh_s (x : Int64) (i : Nat) (hi : i + 8 < 64) : (x >>> ((nI 8).toInt64 &&& 63)).toBitVec.getLsbD i = x.toBitVec.getLsbD (8 + i) := by
  have e9 : (((nI 8).toInt64 &&& 63).toBitVec.smod 64).toNat = 8 := by decide +kernel
  rw [Int64.toBitVec_shiftRight, BitVec.getLsbD_sshiftRight', e9, if_pos (by omega), decide_eq_false (by omega)]
  rfl
theorem rn_sh_bit (v : Int64) : ∀ (f i : Nat), 8 * f + i < 64 → (rn_sh v f).toBitVec.getLsbD i = v.toBitVec.getLsbD (8 * f + i)
  | 0, i, _ => by rw [Nat.mul_zero, Nat.zero_add]; rfl
  | f + 1, i, h => by
    show (rn_sh v f >>> ((nI 8).toInt64 &&& 63)).toBitVec.getLsbD i = _
    rw [rn_sh_s _ i (by omega), rn_sh_bit v f (8 + i) (by omega)]
    congr 1
    omega
theorem rn_cu : ∀ k, k < 64 → ((nI k).toInt64.toUInt64 &&& Int64.toUInt64 63) = UInt64.ofNat k := by decide +kernel
theorem rn_b255 (x : Int32) : x.toInt8.toInt32 &&& 255 = x &&& 255 := by
  apply Int32.toBitVec_inj.mp
  rw [Int32.toBitVec_and, Int32.toBitVec_and, Int8.toBitVec_toInt32, Int32.toBitVec_toInt8]
  apply BitVec.eq_of_getLsbD_eq
  intro i hi
  rw [BitVec.getLsbD_and, BitVec.getLsbD_and]
  have hm : ∀ i < 32, 8 ≤ i → (255 : Int32).toBitVec.getLsbD i = false := by decide
  rcases Nat.lt_or_ge i 8 with z | z
  · rw [BitVec.getLsbD_signExtend, BitVec.getLsbD_signExtend, if_pos z, if_pos hi]
    simp only [z, hi, decide_true, Bool.true_and]
  · rw [hm i hi z]; simp
/-- the byte that the reference keeps is the lowest eight bits of the one kept here -/
theorem rn_shb (v : Int64) {f : Nat} (hf : f ≤ 7) : (rn_sh v f &&& 255).toInt32 = rn_by v f &&& nI 255 := by
  have eX : ((v.toUInt64 >>> ((nI (8 * f)).toInt64.toUInt64 &&& Int64.toUInt64 63)).toInt64).toBitVec = v.toBitVec >>> (8 * f) := by
    rw [rn_cu (8 * f) (by omega)]
    apply BitVec.eq_of_toNat_eq
    show (v.toUInt64 >>> UInt64.ofNat (8 * f)).toNat = _
    have h1 : (UInt64.ofNat (8 * f)).toNat = 8 * f := by
      show (BitVec.ofNat 64 (8 * f)).toNat = 8 * f
      rw [BitVec.toNat_ofNat, Nat.mod_eq_of_lt (by omega)]
    rw [UInt64.toNat_shiftRight, h1, Nat.mod_eq_of_lt (by omega), BitVec.toNat_ushiftRight]
    rfl
  have e2 : rn_by v f &&& nI 255 = ((v.toUInt64 >>> ((nI (8 * f)).toInt64.toUInt64 &&& Int64.toUInt64 63)).toInt64).toInt32 &&& 255 := rn_b255 _
  rw [e2]
  apply Int32.toBitVec_inj.mp
  apply BitVec.eq_of_getLsbD_eq
  intro i hi
  have m1 : ∀ i < 32, (255 : Int64).toBitVec.getLsbD i = decide (i < 8) := by decide +kernel
  have m2 : ∀ i < 32, (255 : Int32).toBitVec.getLsbD i = decide (i < 8) := by decide +kernel
  rw [Int32.toBitVec_and, BitVec.getLsbD_and, m2 i hi, Int64.toBitVec_toInt32, Int64.toBitVec_toInt32, BitVec.getLsbD_signExtend, BitVec.getLsbD_signExtend, if_pos (by omega), if_pos (by omega), eX, Int64.toBitVec_and, BitVec.getLsbD_and, m1 i hi, BitVec.getLsbD_ushiftRight]
  by_cases h : i < 8
  · rw [rn_sh_bit v f i (by omega)]
    cases v.toBitVec.getLsbD (8 * f + i) <;> simp [hi]
  · rw [decide_eq_false h]
    simp
