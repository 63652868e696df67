/-! THE LAW: its loop, its run -/
theorem and31 (x : Int32) : ∃ v : Nat, v < 32 ∧ x &&& nI 31 = nI v := by
  refine ⟨x.toBitVec.toNat % 32, Nat.mod_lt _ (by decide), ?_⟩
  apply Int32.toBitVec_inj.mp
  apply BitVec.eq_of_toNat_eq
  rw [Int32.toBitVec_and, BitVec.toNat_and]
  show x.toBitVec.toNat &&& 31 = (BitVec.ofNat 32 (x.toBitVec.toNat % 32)).toNat
  rw [BitVec.toNat_ofNat, Nat.mod_eq_of_lt (show x.toBitVec.toNat % 32 < 2 ^ 32 by omega), show (31 : Nat) = 2 ^ 5 - 1 from rfl, Nat.and_two_pow_sub_one_eq_mod]
def lSw : Array Int := #[104, 147, 170, 243, 266, 309, 342, 355, 388, 401, 444, 457, 490, 503, 526, 539, 572, 585, 598, 621, 670, 703]
theorem lSw_at : eSw 32 (nI 0) 726 0 21 lSw = some 136 ∧ eSw 32 (nI 1) 726 0 21 lSw = some 179 ∧ eSw 32 (nI 2) 726 0 21 lSw = some 202 ∧ eSw 32 (nI 3) 726 0 21 lSw = some 275 ∧ eSw 32 (nI 4) 726 0 21 lSw = some 298 ∧ eSw 32 (nI 5) 726 0 21 lSw = some 341 ∧ eSw 32 (nI 6) 726 0 21 lSw = some 374 ∧ eSw 32 (nI 7) 726 0 21 lSw = some 387 ∧ eSw 32 (nI 8) 726 0 21 lSw = some 420 ∧ eSw 32 (nI 9) 726 0 21 lSw = some 433 ∧ eSw 32 (nI 10) 726 0 21 lSw = some 476 ∧ eSw 32 (nI 11) 726 0 21 lSw = some 489 ∧ eSw 32 (nI 12) 726 0 21 lSw = some 522 ∧ eSw 32 (nI 13) 726 0 21 lSw = some 535 ∧ eSw 32 (nI 14) 726 0 21 lSw = some 558 ∧ eSw 32 (nI 15) 726 0 21 lSw = some 571 ∧ eSw 32 (nI 16) 726 0 21 lSw = some 604 ∧ eSw 32 (nI 17) 726 0 21 lSw = some 617 ∧ eSw 32 (nI 18) 726 0 21 lSw = some 630 ∧ eSw 32 (nI 19) 726 0 21 lSw = some 653 ∧ eSw 32 (nI 20) 726 0 21 lSw = some 702 ∧ eSw 32 (nI 21) 726 0 21 lSw = some 735 := by decide +kernel
section LWL
variable {L : Nat} {xs : Nat → Int32}
theorem lw_step {h : eH} {g : SG} {i : Nat} (hL : L ≤ 2560) (hi : i + 5 ≤ L) (ci : CI h g) (mi : MI h g) : ∃ h' g', lu L xs 26 [some (.float 0), some (.ref 0), some (.ref 239), some (.int (nI i))] [] h = lu L xs 758 [some (.float 0), some (.ref 0), some (.ref 239), some (.int (nI i))] [] h' ∧ CI h' g' ∧ MI h' g' ∧ h'.2 = h.2 := by
  obtain ⟨v, hv, e⟩ := and31 (xs i)
  have go : lu L xs 26 [some (.float 0), some (.ref 0), some (.ref 239), some (.int (nI i))] [] h = swF (eSw 32 (nI v) 726 0 21 lSw) (fun z => lu L xs z [some (.float 0), some (.ref 0), some (.ref 239), some (.int (nI i))] [] h) := by
    simp only [S192_0 (L := L) (xs := xs), inR_nI (show i < L by omega) (show L < 2 ^ 31 by omega), nI_clamp (show i < 2 ^ 31 by omega), e]
    rfl
  rw [go]
  have hs := lSw_at
  obtain ⟨s0, s1, s2, s3, s4, s5, s6, s7, s8, s9, s10, s11, s12, s13, s14, s15, s16, s17, s18, s19, s20, s21⟩ := hs
  rcases Nat.lt_or_ge v 22 with q | q
  · match v, q with
    | 0, _ => rw [s0, swF_at (z := 136) (k := 136) rfl]; exact lw_row hL hi ci mi
    | 1, _ => rw [s1, swF_at (z := 179) (k := 179) rfl]; exact lw_tear hL hi ci mi
    | 2, _ => rw [s2, swF_at (z := 202) (k := 202) rfl]; exact lw_write hL hi ci mi
    | 3, _ => rw [s3, swF_at (z := 275) (k := 275) rfl]; exact lw_net hL hi ci mi
    | 4, _ => rw [s4, swF_at (z := 298) (k := 298) rfl]; exact lw_load hL hi ci mi
    | 5, _ => rw [s5, swF_at (z := 341) (k := 341) rfl]; exact lw_pull hL hi ci mi
    | 6, _ => rw [s6, swF_at (z := 374) (k := 374) rfl]; exact lw_stresses hL hi ci mi
    | 7, _ => rw [s7, swF_at (z := 387) (k := 387) rfl]; exact lw_stress hL hi ci mi
    | 8, _ => rw [s8, swF_at (z := 420) (k := 420) rfl]; exact lw_ways hL hi ci mi
    | 9, _ => rw [s9, swF_at (z := 433) (k := 433) rfl]; exact lw_way hL hi ci mi
    | 10, _ => rw [s10, swF_at (z := 476) (k := 476) rfl]; exact lw_even hL hi ci mi
    | 11, _ => rw [s11, swF_at (z := 489) (k := 489) rfl]; exact lw_left hL hi ci mi
    | 12, _ => rw [s12, swF_at (z := 522) (k := 522) rfl]; exact lw_borne hL hi ci mi
    | 13, _ => rw [s13, swF_at (z := 535) (k := 535) rfl]; exact lw_bears hL hi ci mi
    | 14, _ => rw [s14, swF_at (z := 558) (k := 558) rfl]; exact lw_shaped hL hi ci mi
    | 15, _ => rw [s15, swF_at (z := 571) (k := 571) rfl]; exact lw_shape hL hi ci mi
    | 16, _ => rw [s16, swF_at (z := 604) (k := 604) rfl]; exact lw_tight hL hi ci mi
    | 17, _ => rw [s17, swF_at (z := 617) (k := 617) rfl]; exact lw_stiff hL hi ci mi
    | 18, _ => rw [s18, swF_at (z := 630) (k := 630) rfl]; exact lw_look hL hi ci mi
    | 19, _ => rw [s19, swF_at (z := 653) (k := 653) rfl]; exact lw_part hL hi ci mi
    | 20, _ => rw [s20, swF_at (z := 702) (k := 702) rfl]; exact lw_told hL hi ci mi
    | 21, _ => rw [s21, swF_at (z := 735) (k := 735) rfl]; exact lw_count hL hi ci mi
    | k + 22, hq => omega
  · have hw : iok (v : Int) := ⟨by omega, by omega⟩
    rw [nI_I, eSw_out hw (Or.inr (by omega)), swF_at (z := ((32 : Nat) : Int) + 726) (k := 758) rfl]
    exact ⟨h, g, rfl, ci, mi, rfl⟩
theorem lw_exit {h : eH} {i : Nat} (hL : L ≤ 2560) (h1 : i ≤ 2600) (hi : ¬ i + 5 ≤ L) : lu L xs 18 [some (.float 0), some (.ref 0), some (.ref 239), some (.int (nI i))] [] h = some (some (.int (nI 1)), h) := by
  have c : nI L - nI 5 < nI i := by
    rw [nI_I, nI_I, nI_I, iI_sub]
    exact (iI_lt ⟨by omega, by omega⟩ ⟨by omega, by omega⟩).mpr (by omega)
  rw [H192_18]
  simp only [S192_0 (L := L) (xs := xs), if_pos c, H192_764 (L := L) (xs := xs), S192_8 (L := L) (xs := xs)]
  rfl
theorem lw_loop (hL : L ≤ 2560) : ∀ (n i : Nat) (h : eH) (g : SG), L ≤ i + n → i ≤ 2600 → CI h g → MI h g → ∃ h' : eH, lu L xs 18 [some (.float 0), some (.ref 0), some (.ref 239), some (.int (nI i))] [] h = some (some (.int (nI 1)), h') ∧ h'.2 = h.2 := by
  intro n
  induction n with
  | zero => intro i h g h0 h1 ci mi; exact ⟨h, lw_exit hL h1 (by omega), rfl⟩
  | succ n ih =>
    intro i h g h0 h1 ci mi
    by_cases q : i + 5 ≤ L
    · obtain ⟨h2, g2, e2, c2, m2, s2⟩ := lw_step (xs := xs) hL q ci mi
      obtain ⟨h3, e3, s3⟩ := ih (i + 5) h2 g2 (by omega) (by omega) c2 m2
      have c : ¬ nI L - nI 5 < nI i := by
        rw [nI_I, nI_I, nI_I, iI_sub]
        exact fun h => absurd ((iI_lt ⟨by omega, by omega⟩ ⟨by omega, by omega⟩).mp h) (by omega)
      refine ⟨h3, ?_, s3.trans s2⟩
      have f : lu L xs 18 [some (.float 0), some (.ref 0), some (.ref 239), some (.int (nI i))] [] h = lu L xs 26 [some (.float 0), some (.ref 0), some (.ref 239), some (.int (nI i))] [] h := by
        rw [H192_18, S192_0.2.2.2.2.2.2.2.2.2.2.1, S192_0.2.2.2.2.2.2.2.2.2.2.2.1, S192_0.2.2.2.2.2.2.2.2.2.2.2.2.1, S192_0.2.2.2.2.2.2.2.2.2.2.2.2.2.1, S192_0.2.2.2.2.2.2.2.2.2.2.2.2.2.2.1, if_neg c]
      have b : lu L xs 758 [some (.float 0), some (.ref 0), some (.ref 239), some (.int (nI i))] [] h2 = lu L xs 18 [some (.float 0), some (.ref 0), some (.ref 239), some (.int (nI (i + 5)))] [] h2 := by
        simp only [S192_8 (L := L) (xs := xs), eKls, nI_add]
      rw [f, e2, b, e3]
    · exact ⟨h, lw_exit hL h1 q, rfl⟩
end LWL
theorem CI.lo {h h' : eH} {g : SG} (ci : CI h g) (f : ∀ i, i < 239 → h'.1 i = h.1 i) : CI h' g := by
  obtain ⟨a, b, fk, bk, mk, pk, tk, ct, ca, ⟨op, tt, rf, sl⟩, sv, c, ck, no, nx, hv, ti⟩ := ci
  have ab := ca.2
  exact ⟨a, b, fk, bk, mk, pk, tk, ct, ⟨(f 0 (by omega)).trans ca.1, ca.2⟩, ⟨op, tt, rf, sl.keep (fun i i1 i2 => f i (by omega))⟩, sv, c.keep (fun i hi => f i (by omega)), ck.keep (fun i i1 i2 => f i (by omega)), no.keep (fun i i1 i2 => f i (by omega)), nx.keep (fun i i1 i2 => f i (by omega)), hv, ti⟩
def eH0 : eH := (fun _ => qbad, 0, 0)
theorem law_eval (L : Nat) (xs : Nat → Int32) (hL : L ≤ 2560) : ∃ h', eRun (some (L, xs)) (eTo qm qt 192) (qt 192) (0, entL 4 [.float 0], [], eH0) = some (some (.int 1), h') ∧ h'.2.1 ≤ 600000 ∧ h'.2.2 ≤ 7302250 := by
  obtain ⟨h1, e1, c1, s1, i1⟩ := d148 (h := (va_up eH0.1 0 (.inr (10, [.null, .null, .null, .null, .null, .null, .null, .null, .null, .null, .null, .int 0, .int 0, .int 0, .int 0, .int 0, .int 0])), 1, 17)) (by simp [va_up]) rfl
  obtain ⟨h2, e2, c2, s2, lo, m2⟩ := d53 (h := (va_up h1.1 239 ob0, 240, h1.2.2 + 24)) (by simp [va_up]) rfl
  have i2 : CI h2 (st0, nt0, 0, 1) := i1.lo (fun i hi => (lo i hi).trans (by simp [va_up, Nat.ne_of_lt hi]))
  obtain ⟨h3, e3, s3⟩ := lw_loop (L := L) (xs := xs) hL L 0 h2 _ (by omega) (by omega) i2 m2
  refine ⟨h3, ?_, ?_, ?_⟩
  · show lu L xs 0 [some (.float 0), none, none, none] [] eH0 = _
    have r0 : eH0.2.1 = 0 := rfl
    have r1 : eH0.2.2 = 0 := rfl
    rw [S192_0.1, S192_0.2.1, S192_0.2.2.1, r0, r1]
    have e1' := e1
    simp only [Nat.zero_add, e1, cl_some, Option.toList_none, List.nil_append]
    rw [S192_0.2.2.2.1, S192_0.2.2.2.2.1, S192_0.2.2.2.2.2.1, S192_0.2.2.2.2.2.2.1, c1]
    have e2' : den 53 [.ref 239] (va_up h1.1 239 (.inr (11, [.null, .null, .null, .null, .int 0, .null, .null, .null, .null, .null, .int 0, .null, .null, .null, .null, .null, .null, .null, .null, .int 0, .int 0, .int 0, .null, .int 0])), 239 + 1, h1.2.2 + 24) = some (none, h2) := e2
    rw [e2', cl_some]
    simp only [Option.toList_none, List.nil_append]
    rw [S192_0.2.2.2.2.2.2.2.1, S192_0.2.2.2.2.2.2.2.2.1, S192_0.2.2.2.2.2.2.2.2.2.1]
    exact e3
  · rw [s3, c2]; decide
  · have t1 : h1.2.2 ≤ 17 + 6000 := s1
    have t2 : h2.2.2 = h1.2.2 + 24 + 10629 := s2
    rw [s3]
    omega
