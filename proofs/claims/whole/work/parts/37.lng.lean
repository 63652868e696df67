/-! SIGNED NUMBERS: Int32 and Int64 as integers -/
def lI (z : Int) : Int64 := Int64.ofInt z
def iI (z : Int) : Int32 := Int32.ofInt z
theorem lN_I (n : Nat) : lN n = lI n := rfl
theorem nI_I (n : Nat) : nI n = iI n := rfl
theorem lI_add (a b : Int) : lI a + lI b = lI (a + b) := (Int64.ofInt_add a b).symm
theorem lI_sub (a b : Int) : lI a - lI b = lI (a - b) := (Int64.ofInt_sub a b).symm
theorem lI_mul (a b : Int) : lI a * lI b = lI (a * b) := (Int64.ofInt_mul a b).symm
theorem lI_neg (a : Int) : - lI a = lI (-a) := (Int64.ofInt_neg a).symm
theorem iI_add (a b : Int) : iI a + iI b = iI (a + b) := (Int32.ofInt_add a b).symm
theorem iI_sub (a b : Int) : iI a - iI b = iI (a - b) := (Int32.ofInt_sub a b).symm
theorem iI_mul (a b : Int) : iI a * iI b = iI (a * b) := (Int32.ofInt_mul a b).symm
theorem iI_neg (a : Int) : - iI a = iI (-a) := (Int32.ofInt_neg a).symm
def lok (z : Int) : Prop := -9223372036854775808 ≤ z ∧ z < 9223372036854775808
def iok (z : Int) : Prop := -2147483648 ≤ z ∧ z < 2147483648
theorem lI_toInt {z : Int} (h : lok z) : (lI z).toInt = z := by
  unfold lI
  obtain ⟨h1, h2⟩ := h
  rw [Int64.toInt_ofInt]
  simp only [Int.bmod, Int64.size]
  omega
theorem iI_toInt {z : Int} (h : iok z) : (iI z).toInt = z := ofI_toInt h.1 h.2
theorem lI_of (x : Int64) : lI x.toInt = x := Int64.ofInt_toInt x
theorem iI_of (x : Int32) : iI x.toInt = x := Int32.ofInt_toInt x
theorem lok_of (x : Int64) : lok x.toInt := by
  have h1 := Int64.le_toInt x
  have h2 := Int64.toInt_lt x
  exact ⟨by omega, by omega⟩
theorem iok_of (x : Int32) : iok x.toInt := by
  have h1 := Int32.le_toInt x
  have h2 := Int32.toInt_lt x
  exact ⟨by omega, by omega⟩
theorem lI_lt {a b : Int} (ha : lok a) (hb : lok b) : lI a < lI b ↔ a < b := by
  rw [Int64.lt_iff_toInt_lt, lI_toInt ha, lI_toInt hb]
theorem lI_le {a b : Int} (ha : lok a) (hb : lok b) : lI a ≤ lI b ↔ a ≤ b := by
  rw [Int64.le_iff_toInt_le, lI_toInt ha, lI_toInt hb]
theorem lI_eq {a b : Int} (ha : lok a) (hb : lok b) : lI a = lI b ↔ a = b := by
  rw [← Int64.toInt_inj, lI_toInt ha, lI_toInt hb]
theorem iI_lt {a b : Int} (ha : iok a) (hb : iok b) : iI a < iI b ↔ a < b := by
  rw [Int32.lt_iff_toInt_lt, iI_toInt ha, iI_toInt hb]
theorem iI_le {a b : Int} (ha : iok a) (hb : iok b) : iI a ≤ iI b ↔ a ≤ b := by
  rw [Int32.le_iff_toInt_le, iI_toInt ha, iI_toInt hb]
theorem iI_eq {a b : Int} (ha : iok a) (hb : iok b) : iI a = iI b ↔ a = b := by
  rw [← Int32.toInt_inj, iI_toInt ha, iI_toInt hb]
theorem lI_i (z : Int) : (lI z).toInt32 = iI z := by
  unfold lI iI
  exact Int64.toInt32_ofInt
theorem iI_l {z : Int} (h : iok z) : (iI z).toInt64 = lI z := by
  apply Int64.toInt_inj.mp
  rw [Int32.toInt_toInt64, iI_toInt h, lI_toInt ⟨by have := h.1; omega, by have := h.2; omega⟩]
theorem lI_div {a b : Int} (ha : lok a) (hb : lok b) : lI a / lI b = lI (a.tdiv b) := by
  unfold lI
  rw [Int64.ofInt_tdiv] <;> (have := ha.1; have := ha.2; have := hb.1; have := hb.2; simp only [show Int64.minValue.toInt = -9223372036854775808 by decide, show Int64.maxValue.toInt = 9223372036854775807 by decide]; omega)
theorem iI_div {a b : Int} (ha : iok a) (hb : iok b) : iI a / iI b = iI (a.tdiv b) := by
  unfold iI
  rw [Int32.ofInt_tdiv] <;> (have := ha.1; have := ha.2; have := hb.1; have := hb.2; simp only [show Int32.minValue.toInt = -2147483648 by decide, show Int32.maxValue.toInt = 2147483647 by decide]; omega)
theorem lI_rem {a b : Int} (ha : lok a) (hb : lok b) : lI a - lI a / lI b * lI b = lI (a.tmod b) := by
  rw [lI_div ha hb, lI_mul, lI_sub]
  congr 1
  rw [Int.tmod_def, Int.mul_comm b]
theorem iI_rem {a b : Int} (ha : iok a) (hb : iok b) : iI a - iI a / iI b * iI b = iI (a.tmod b) := by
  rw [iI_div ha hb, iI_mul, iI_sub]
  congr 1
  rw [Int.tmod_def, Int.mul_comm b]
theorem lg_lt0 {a b : Int64} : lg_cmp a b < 0 ↔ a < b := by
  unfold lg_cmp
  by_cases h1 : b < a
  · have h2 : ¬ a < b := fun e => by
      rw [Int64.lt_iff_toInt_lt] at h1 e; omega
    simp [h1, h2]
  · by_cases h2 : a = b
    · subst h2; simp [h1]
    · have h3 : a < b := by
        rw [Int64.lt_iff_toInt_lt] at h1 ⊢
        have : a.toInt ≠ b.toInt := fun e => h2 (Int64.toInt_inj.mp e)
        omega
      simp [h1, h2, h3]
theorem lg_ge0 {a b : Int64} : 0 ≤ lg_cmp a b ↔ b ≤ a := by
  have := lg_lt0 (a := a) (b := b)
  rw [Int64.lt_iff_toInt_lt] at this
  rw [Int64.le_iff_toInt_le, Int32.le_iff_toInt_le]
  rw [Int32.lt_iff_toInt_lt] at this
  have h0 : (0 : Int32).toInt = 0 := rfl
  rw [h0] at this ⊢
  omega
theorem lg_eq0 {a b : Int64} : lg_cmp a b = 0 ↔ a = b := by
  unfold lg_cmp
  by_cases h1 : b < a
  · have h2 : ¬ a = b := fun e => by
      subst e; rw [Int64.lt_iff_toInt_lt] at h1; omega
    simp [h1, h2]
  · by_cases h2 : a = b
    · subst h2; simp [h1]
    · simp [h1, h2]
theorem lg_gt0 {a b : Int64} : 0 < lg_cmp a b ↔ b < a := by
  have h1 := lg_lt0 (a := b) (b := a)
  have h2 := lg_lt0 (a := a) (b := b)
  have h3 := lg_eq0 (a := a) (b := b)
  rw [Int64.lt_iff_toInt_lt] at h1 h2 ⊢
  rw [Int32.lt_iff_toInt_lt] at h1 h2 ⊢
  rw [← Int64.toInt_inj, ← Int32.toInt_inj] at h3
  have h0 : (0 : Int32).toInt = 0 := rfl
  rw [h0] at h1 h2 h3 ⊢
  omega
theorem lg_le0 {a b : Int64} : lg_cmp a b ≤ 0 ↔ a ≤ b := by
  have h1 := lg_gt0 (a := a) (b := b)
  rw [Int64.lt_iff_toInt_lt, Int32.lt_iff_toInt_lt] at h1
  rw [Int64.le_iff_toInt_le, Int32.le_iff_toInt_le]
  have h0 : (0 : Int32).toInt = 0 := rfl
  rw [h0] at h1 ⊢
  omega
theorem xor_neg {a b : Int64} (hb : 0 < b.toInt) : (a ^^^ b) < 0 ↔ a < 0 := by
  have h0 : (0 : Int64).toInt = 0 := rfl
  have e : (a ^^^ b).toBitVec.msb = a.toBitVec.msb := by
    have hm : b.toBitVec.msb = false := by
      cases hh : b.toBitVec.msb with
      | false => rfl
      | true =>
        have := BitVec.toInt_neg_of_msb_true hh
        have e2 : b.toBitVec.toInt = b.toInt := rfl
        omega
    show (a.toBitVec ^^^ b.toBitVec).msb = _
    rw [BitVec.msb_xor, hm, Bool.xor_false]
  rw [Int64.lt_iff_toInt_lt, Int64.lt_iff_toInt_lt, h0]
  have m : ∀ x : Int64, x.toInt < 0 ↔ x.toBitVec.msb = true := by
    intro x
    constructor
    · intro hx
      cases hh : x.toBitVec.msb with
      | true => rfl
      | false =>
        have := BitVec.toInt_nonneg_of_msb_false hh
        have e2 : x.toBitVec.toInt = x.toInt := rfl
        omega
    · intro hx
      exact BitVec.toInt_neg_of_msb_true hx
  rw [m, m, e]
theorem d6 {a b : Int} (ha : lok a) (hb : lok b) (h0 : 0 < b) (h : eH) : den 6 [.long (lI a), .long (lI b)] h = some (some (.long (lI (a / b))), h) := by
  rw [E6]
  simp only [S6]
  have hne : ¬ lI b = 0 := fun e => by
    have := (lI_eq hb (b := 0) ⟨by decide, by decide⟩).mp e
    omega
  have l0 : lok 0 := ⟨by decide, by decide⟩
  have hx : (0 ≤ lg_cmp (lI a ^^^ lI b) (lN 0)) ↔ 0 ≤ a := by
    rw [lg_ge0]
    have h1 := xor_neg (a := lI a) (b := lI b) (by rw [lI_toInt hb]; exact h0)
    have h2 : lI a < 0 ↔ a < 0 := lI_lt ha l0
    rw [h2] at h1
    have : (lN 0 ≤ lI a ^^^ lI b) ↔ ¬ (lI a ^^^ lI b) < 0 := by
      rw [Int64.le_iff_toInt_le, Int64.lt_iff_toInt_lt]
      have : (lN 0).toInt = 0 := rfl
      have : (0 : Int64).toInt = 0 := rfl
      omega
    rw [this, h1]
    omega
  simp only [hne, if_false, eKls, S6, hx]
  rw [lI_div ha hb]
  have hq : a.tdiv b = if 0 ≤ a ∨ b ∣ a then a / b else a / b + 1 := by
    rw [Int.tdiv_eq_ediv]
    have : b.sign = 1 := Int.sign_eq_one_of_pos h0
    rw [this]
    split <;> omega
  by_cases hpos : 0 ≤ a
  · rw [if_pos hpos, hq, if_pos (Or.inl hpos)]
  · rw [if_neg hpos]
    have hd := Int.emod_add_mul_ediv a b
    have hm := Int.emod_nonneg a (show b ≠ 0 by omega)
    have hm2 := Int.emod_lt_of_pos a h0
    have hmul : b * (a.tdiv b) = b * (a / b) + (if b ∣ a then 0 else b) := by
      rw [hq]
      by_cases hdv : b ∣ a
      · rw [if_pos (Or.inr hdv), if_pos hdv]; omega
      · rw [if_neg (by intro e; rcases e with e | e; exact hpos e; exact hdv e), if_neg hdv, Int.mul_add]; omega
    have hdm : b ∣ a ↔ a % b = 0 := Int.dvd_iff_emod_eq_zero
    have ob := hb.2
    have oa := ha.1
    have ok2 : lok (a.tdiv b * b) := by
      rw [Int.mul_comm]
      constructor <;> (rw [hmul]; split <;> omega)
    rw [lI_mul]
    by_cases hdv : b ∣ a
    · rw [if_pos (lg_eq0.mpr (by rw [Int.mul_comm, hmul, if_pos hdv]; congr 1; have := hdm.mp hdv; omega)), hq, if_pos (Or.inr hdv)]
    · rw [if_neg (fun e => by
        have := (lI_eq ok2 ha).mp (lg_eq0.mp e)
        rw [Int.mul_comm, hmul, if_neg hdv] at this
        have := fun e => hdv (hdm.mpr e)
        omega)]
      rw [show lN 1 = lI 1 from rfl, lI_sub, hq, if_neg (by intro e; rcases e with e | e; exact hpos e; exact hdv e), Int.add_sub_cancel]
theorem d7 {a b : Int} (ha : lok a) (hb : lok b) (h0 : 0 < b) (h : eH) : den 7 [.long (lI a), .long (lI b)] h = some (some (.long (lI (a % b))), h) := by
  rw [E7]
  simp only [S7]
  have hne : ¬ lI b = 0 := fun e => by
    have := (lI_eq hb (b := 0) ⟨by decide, by decide⟩).mp e
    omega
  have l0 : lok 0 := ⟨by decide, by decide⟩
  have hx : (0 ≤ lg_cmp (lI a ^^^ lI b) (lN 0)) ↔ 0 ≤ a := by
    rw [lg_ge0]
    have h1 := xor_neg (a := lI a) (b := lI b) (by rw [lI_toInt hb]; exact h0)
    have h2 : lI a < 0 ↔ a < 0 := lI_lt ha l0
    rw [h2] at h1
    have : (lN 0 ≤ lI a ^^^ lI b) ↔ ¬ (lI a ^^^ lI b) < 0 := by
      rw [Int64.le_iff_toInt_le, Int64.lt_iff_toInt_lt]
      have : (lN 0).toInt = 0 := rfl
      have : (0 : Int64).toInt = 0 := rfl
      omega
    rw [this, h1]
    omega
  simp only [hne, if_false, eKls, S7, hx]
  rw [lI_rem ha hb]
  have hq : a.tmod b = if 0 ≤ a ∨ b ∣ a then a % b else a % b - b := by
    rw [Int.tmod_eq_emod]
    split
    · omega
    · omega
  by_cases hpos : 0 ≤ a
  · rw [if_pos hpos, hq, if_pos (Or.inl hpos)]
  · rw [if_neg hpos]
    have hm := Int.emod_nonneg a (show b ≠ 0 by omega)
    have hm2 := Int.emod_lt_of_pos a h0
    have hdm : b ∣ a ↔ a % b = 0 := Int.dvd_iff_emod_eq_zero
    have ob := hb.2
    by_cases hdv : b ∣ a
    · rw [if_pos (lg_eq0.mpr (by rw [hq, if_pos (Or.inr hdv), hdm.mp hdv]; rfl)), hq, if_pos (Or.inr hdv)]
    · rw [if_neg (fun e => by
        have := (lI_eq (b := 0) (by rw [hq, if_neg (by intro e; rcases e with e | e; exact hpos e; exact hdv e)]; exact ⟨by omega, by omega⟩) l0).mp (lg_eq0.mp e)
        rw [hq, if_neg (by intro e; rcases e with e | e; exact hpos e; exact hdv e)] at this
        omega)]
      rw [lI_add, hq, if_neg (by intro e; rcases e with e | e; exact hpos e; exact hdv e), Int.sub_add_cancel]
theorem or_m1 (x : Int32) : -1 ||| x = -1 := by
  apply Int32.toBitVec_inj.mp
  show (BitVec.allOnes 32) ||| x.toBitVec = BitVec.allOnes 32
  exact BitVec.allOnes_or
theorem or_0 (x : Int32) : 0 ||| x = x := by
  apply Int32.toBitVec_inj.mp
  show (0#32) ||| x.toBitVec = x.toBitVec
  exact BitVec.zero_or
theorem d0 (v : Int32) (h : eH) : den 0 [.int v] h = some (some (.int (iI v.toInt.sign)), h) := by
  rw [E0]
  simp only [S0]
  congr 4
  have o := iok_of v
  obtain ⟨o1, o2⟩ := o
  have s1 := pk_shr v (nI 31 &&& 31) 31 (by decide)
  have s2 := pk_ushr (-v) (nI 31) 31 (by decide)
  by_cases h1 : v.toInt < 0
  · have e : v >>> (nI 31 &&& 31) = -1 := by
      apply Int32.toInt_inj.mp
      rw [s1, Int.shiftRight_eq_div_pow]
      show v.toInt / 2147483648 = -1
      omega
    rw [e, or_m1, Int.sign_eq_neg_one_of_neg h1]
    rfl
  · have e : v >>> (nI 31 &&& 31) = 0 := by
      apply Int32.toInt_inj.mp
      rw [s1, Int.shiftRight_eq_div_pow]
      show v.toInt / 2147483648 = 0
      omega
    rw [e, or_0]
    have ht : (-v).toBitVec.toNat = if v.toInt = 0 then 0 else 4294967296 - v.toInt.toNat := by
      have h2 : v = iI v.toInt := (iI_of v).symm
      generalize v.toInt = z at *
      obtain ⟨n, rfl⟩ := Int.eq_ofNat_of_zero_le (show 0 ≤ z by omega)
      rw [h2]
      show (-(nI n)).toBitVec.toNat = _
      have h3 : (nI n).toBitVec.toNat = n := pk_tn (by omega)
      show (-(nI n).toBitVec).toNat = _
      rw [BitVec.toNat_neg, h3]
      split
      · omega
      · have : ((n : Int)).toNat = n := rfl
        omega
    by_cases h0 : v.toInt = 0
    · rw [if_pos h0] at ht
      rw [ht] at s2
      rw [h0]
      apply Int32.toBitVec_inj.mp
      apply BitVec.eq_of_toNat_eq
      rw [s2]
      rfl
    · rw [if_neg h0] at ht
      rw [ht] at s2
      rw [Int.sign_eq_one_of_pos (by omega)]
      apply Int32.toBitVec_inj.mp
      apply BitVec.eq_of_toNat_eq
      rw [s2]
      show (4294967296 - v.toInt.toNat) / 2147483648 = 1
      omega
