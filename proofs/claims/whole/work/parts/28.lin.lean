/-! L + w * S, part by part: carries -/
def cJ (L S : Nat) (w : Int) (i : Nat) : Int := (((L % BB ^ i : Nat) : Int) + w * ((S % BB ^ i : Nat) : Int)) / ((BB ^ i : Nat) : Int)
theorem BPi (i : Nat) : ((BB ^ i : Nat) : Int) ≠ 0 := by
  have := BP_pos i
  omega
theorem BPp (i : Nat) : (0 : Int) < ((BB ^ i : Nat) : Int) := by
  have := BP_pos i
  omega
theorem cJ_0 (L S : Nat) (w : Int) : cJ L S w 0 = 0 := by
  unfold cJ
  rw [Nat.pow_zero, Nat.mod_one, Nat.mod_one]
  simp
theorem cJ_split (L S : Nat) (w : Int) (i : Nat) : ((L % BB ^ (i + 1) : Nat) : Int) + w * ((S % BB ^ (i + 1) : Nat) : Int) = (((L % BB ^ i : Nat) : Int) + w * ((S % BB ^ i : Nat) : Int)) + ((dgt L i : Int) + w * (dgt S i : Int)) * ((BB ^ i : Nat) : Int) := by
  rw [mod_succ, mod_succ]
  push_cast
  grind
theorem cJ_mid (L S : Nat) (w : Int) (i : Nat) : (((L % BB ^ (i + 1) : Nat) : Int) + w * ((S % BB ^ (i + 1) : Nat) : Int)) / ((BB ^ i : Nat) : Int) = (dgt L i : Int) + w * (dgt S i : Int) + cJ L S w i := by
  rw [cJ_split, Int.add_mul_ediv_right _ _ (BPi i)]
  unfold cJ
  omega
theorem cJ_succ (L S : Nat) (w : Int) (i : Nat) : cJ L S w (i + 1) = ((dgt L i : Int) + w * (dgt S i : Int) + cJ L S w i) / (BB : Int) := by
  rw [← cJ_mid]
  have e : ((BB ^ (i + 1) : Nat) : Int) = ((BB ^ i : Nat) : Int) * (BB : Int) := by rw [Nat.pow_succ]; push_cast; rfl
  rw [Int.ediv_ediv_of_nonneg (Int.le_of_lt (BPp i)), ← e]
  rfl
theorem dgt_lin {X L S : Nat} {w : Int} (h : (X : Int) = L + w * S) (i : Nat) : (dgt X i : Int) = ((dgt L i : Int) + w * (dgt S i : Int) + cJ L S w i) % (BB : Int) := by
  rw [← cJ_mid]
  have hL := Nat.mod_add_div L (BB ^ (i + 1))
  have hS := Nat.mod_add_div S (BB ^ (i + 1))
  have e : ((BB ^ (i + 1) : Nat) : Int) = (BB : Int) * ((BB ^ i : Nat) : Int) := by rw [Nat.pow_succ, Nat.mul_comm]; push_cast; rfl
  have hX : (X : Int) = (((L % BB ^ (i + 1) : Nat) : Int) + w * ((S % BB ^ (i + 1) : Nat) : Int)) + ((BB : Int) * (((L / BB ^ (i + 1) : Nat) : Int) + w * ((S / BB ^ (i + 1) : Nat) : Int))) * ((BB ^ i : Nat) : Int) := by
    rw [h]
    have h1 : (L : Int) = ((L % BB ^ (i + 1) : Nat) : Int) + ((BB ^ (i + 1) : Nat) : Int) * ((L / BB ^ (i + 1) : Nat) : Int) := by
      rw [← Int.natCast_mul, ← Int.natCast_add, hL]
    have h2 : (S : Int) = ((S % BB ^ (i + 1) : Nat) : Int) + ((BB ^ (i + 1) : Nat) : Int) * ((S / BB ^ (i + 1) : Nat) : Int) := by
      rw [← Int.natCast_mul, ← Int.natCast_add, hS]
    rw [e] at h1 h2
    generalize ((L % BB ^ (i + 1) : Nat) : Int) = a at *
    generalize ((S % BB ^ (i + 1) : Nat) : Int) = b at *
    generalize ((L / BB ^ (i + 1) : Nat) : Int) = p at *
    generalize ((S / BB ^ (i + 1) : Nat) : Int) = q at *
    rw [h1, h2]
    grind
  unfold dgt
  rw [Int.natCast_emod, Int.natCast_ediv, hX, Int.add_mul_ediv_right _ _ (BPi i), Int.add_mul_emod_self_left]
/-- carries are small -/
theorem cJ_nonneg {L S : Nat} {w : Int} (hw : 0 ≤ w) (i : Nat) : 0 ≤ cJ L S w i := by
  unfold cJ
  refine Int.ediv_nonneg ?_ (Int.le_of_lt (BPp i))
  have h1 : (0 : Int) ≤ ((L % BB ^ i : Nat) : Int) := Int.natCast_nonneg _
  have h2 : (0 : Int) ≤ w * ((S % BB ^ i : Nat) : Int) := Int.mul_nonneg hw (Int.natCast_nonneg _)
  omega
theorem cJ_le {L S : Nat} {w : Int} (hw : 0 ≤ w) (i : Nat) : cJ L S w i ≤ w := by
  unfold cJ
  have h1 : ((L % BB ^ i : Nat) : Int) < ((BB ^ i : Nat) : Int) := by have := mod_lt' L i; omega
  have h2 : ((S % BB ^ i : Nat) : Int) ≤ ((BB ^ i : Nat) : Int) := by have := mod_lt' S i; omega
  have h3 : w * ((S % BB ^ i : Nat) : Int) ≤ w * ((BB ^ i : Nat) : Int) := Int.mul_le_mul_of_nonneg_left h2 hw
  have h4 : (((L % BB ^ i : Nat) : Int) + w * ((S % BB ^ i : Nat) : Int)) < (w + 1) * ((BB ^ i : Nat) : Int) := by
    rw [Int.add_mul, Int.one_mul]
    omega
  have := (Int.ediv_lt_iff_lt_mul (BPp i)).mpr h4
  omega
theorem cJ_sub {L S : Nat} (i : Nat) : -1 ≤ cJ L S (-1) i ∧ cJ L S (-1) i ≤ 0 := by
  unfold cJ
  have h1 : ((L % BB ^ i : Nat) : Int) < ((BB ^ i : Nat) : Int) := by have := mod_lt' L i; omega
  have h2 : ((S % BB ^ i : Nat) : Int) < ((BB ^ i : Nat) : Int) := by have := mod_lt' S i; omega
  have h3 : (0 : Int) ≤ ((L % BB ^ i : Nat) : Int) := Int.natCast_nonneg _
  have h5 : (0 : Int) ≤ ((S % BB ^ i : Nat) : Int) := Int.natCast_nonneg _
  constructor
  · refine (Int.le_ediv_iff_mul_le (BPp i)).mpr ?_
    omega
  · have : (((L % BB ^ i : Nat) : Int) + -1 * ((S % BB ^ i : Nat) : Int)) < 1 * ((BB ^ i : Nat) : Int) := by omega
    have := (Int.ediv_lt_iff_lt_mul (BPp i)).mpr this
    omega
theorem dgt_div (m i j : Nat) : dgt (m / BB ^ i) j = dgt m (i + j) := by
  unfold dgt
  rw [Nat.div_div_eq_div_mul, ← Nat.pow_add]
