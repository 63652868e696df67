/-! THE LAW: each call -/
section LWO
variable {L : Nat} {xs : Nat → Int32} {h : eH} {g : SG} {i : Nat}
theorem lw_row (hL : L ≤ 2560) (hi : i + 5 ≤ L) (ci : CI h g) (mi : MI h g) : ∃ h' g', lu L xs 136 [some (.float 0), some (.ref 0), some (.ref 239), some (.int (nI i))] [] h = lu L xs 758 [some (.float 0), some (.ref 0), some (.ref 239), some (.int (nI i))] [] h' ∧ CI h' g' ∧ MI h' g' ∧ h'.2 = h.2 := by
  have P := p172 (s := (xs (i + 1)).toInt) (w := (xs (i + 2)).toInt) (k := (xs (i + 3)).toInt) ci (iok_of _) (iok_of _) (iok_of _)
  simp only [iI_of] at P
  have Q := fun (h1 : eH) (m1 : MI h1 g) => r69 (h := h1) (g := g) (sl := (xs (i + 1)).toInt) (w := (xs (i + 2)).toInt) (k := (xs (i + 3)).toInt) m1 (iok_of _) (iok_of _) (iok_of _)
  simp only [iI_of] at Q
  obtain ⟨h1, h2, e1, e2, c2, m2, s2⟩ := both mi P Q
  refine ⟨h2, _, ?_, c2, m2, s2⟩
  simp only [S192_0 (L := L) (xs := xs), gFs, pFs, okq, bls, bo_true, eUp_at, eUp_eUp, eKls, cl_some, Option.toList_some, Option.toList_none, List.cons_append, List.nil_append, nI_add, inR_nI (show i + 1 < L by omega) (show L < 2 ^ 31 by omega), nI_clamp (show i + 1 < 2 ^ 31 by omega), inR_nI (show i + 2 < L by omega) (show L < 2 ^ 31 by omega), nI_clamp (show i + 2 < 2 ^ 31 by omega), inR_nI (show i + 3 < L by omega) (show L < 2 ^ 31 by omega), nI_clamp (show i + 3 < 2 ^ 31 by omega), e1, e2, eq_self, if_true]
theorem lw_tear (hL : L ≤ 2560) (hi : i + 5 ≤ L) (ci : CI h g) (mi : MI h g) : ∃ h' g', lu L xs 179 [some (.float 0), some (.ref 0), some (.ref 239), some (.int (nI i))] [] h = lu L xs 758 [some (.float 0), some (.ref 0), some (.ref 239), some (.int (nI i))] [] h' ∧ CI h' g' ∧ MI h' g' ∧ h'.2 = h.2 := by
  have P := p182 (s := (xs (i + 1)).toInt) ci (iok_of _)
  simp only [iI_of] at P
  have Q := fun (h1 : eH) (m1 : MI h1 g) => r75 (h := h1) (g := g) (sl := (xs (i + 1)).toInt) m1 (iok_of _)
  simp only [iI_of] at Q
  obtain ⟨h1, h2, e1, e2, c2, m2, s2⟩ := both mi P Q
  refine ⟨h2, _, ?_, c2, m2, s2⟩
  simp only [S192_0 (L := L) (xs := xs), S192_1 (L := L) (xs := xs), gFs, pFs, okq, bls, bo_true, eUp_at, eUp_eUp, eKls, cl_some, Option.toList_some, Option.toList_none, List.cons_append, List.nil_append, nI_add, inR_nI (show i + 1 < L by omega) (show L < 2 ^ 31 by omega), nI_clamp (show i + 1 < 2 ^ 31 by omega), e1, e2, eq_self, if_true]
theorem lw_net (hL : L ≤ 2560) (hi : i + 5 ≤ L) (ci : CI h g) (mi : MI h g) : ∃ h' g', lu L xs 275 [some (.float 0), some (.ref 0), some (.ref 239), some (.int (nI i))] [] h = lu L xs 758 [some (.float 0), some (.ref 0), some (.ref 239), some (.int (nI i))] [] h' ∧ CI h' g' ∧ MI h' g' ∧ h'.2 = h.2 := by
  have P := p168 (s := (xs (i + 1)).toInt) ci (iok_of _)
  simp only [iI_of] at P
  have Q := fun (h1 : eH) (m1 : MI h1 g) => r66 (h := h1) (g := g) (sl := (xs (i + 1)).toInt) m1 (iok_of _)
  simp only [iI_of] at Q
  obtain ⟨h1, h2, e1, e2, c2, m2, s2⟩ := both mi P Q
  refine ⟨h2, _, ?_, c2, m2, s2⟩
  simp only [S192_2 (L := L) (xs := xs), gFs, pFs, okq, bls, bo_true, eUp_at, eUp_eUp, eKls, cl_some, Option.toList_some, Option.toList_none, List.cons_append, List.nil_append, nI_add, inR_nI (show i + 1 < L by omega) (show L < 2 ^ 31 by omega), nI_clamp (show i + 1 < 2 ^ 31 by omega), e1, e2, eq_self, if_true]
theorem lw_load (hL : L ≤ 2560) (hi : i + 5 ≤ L) (ci : CI h g) (mi : MI h g) : ∃ h' g', lu L xs 298 [some (.float 0), some (.ref 0), some (.ref 239), some (.int (nI i))] [] h = lu L xs 758 [some (.float 0), some (.ref 0), some (.ref 239), some (.int (nI i))] [] h' ∧ CI h' g' ∧ MI h' g' ∧ h'.2 = h.2 := by
  have P := p160 (j := (xs (i + 1)).toInt) (x := (xs (i + 2)).toInt) (y := (xs (i + 3)).toInt) ci (iok_of _) (iok_of _) (iok_of _)
  simp only [iI_of] at P
  have Q := fun (h1 : eH) (m1 : MI h1 g) => r61 (h := h1) (g := g) (j := (xs (i + 1)).toInt) (x := (xs (i + 2)).toInt) (y := (xs (i + 3)).toInt) m1 (iok_of _) (iok_of _) (iok_of _)
  simp only [iI_of] at Q
  obtain ⟨h1, h2, e1, e2, c2, m2, s2⟩ := both mi P Q
  refine ⟨h2, _, ?_, c2, m2, s2⟩
  simp only [S192_2 (L := L) (xs := xs), S192_3 (L := L) (xs := xs), gFs, pFs, okq, bls, bo_true, eUp_at, eUp_eUp, eKls, cl_some, Option.toList_some, Option.toList_none, List.cons_append, List.nil_append, nI_add, inR_nI (show i + 1 < L by omega) (show L < 2 ^ 31 by omega), nI_clamp (show i + 1 < 2 ^ 31 by omega), inR_nI (show i + 2 < L by omega) (show L < 2 ^ 31 by omega), nI_clamp (show i + 2 < 2 ^ 31 by omega), inR_nI (show i + 3 < L by omega) (show L < 2 ^ 31 by omega), nI_clamp (show i + 3 < 2 ^ 31 by omega), e1, e2, eq_self, if_true]
theorem lw_pull (hL : L ≤ 2560) (hi : i + 5 ≤ L) (ci : CI h g) (mi : MI h g) : ∃ h' g', lu L xs 341 [some (.float 0), some (.ref 0), some (.ref 239), some (.int (nI i))] [] h = lu L xs 758 [some (.float 0), some (.ref 0), some (.ref 239), some (.int (nI i))] [] h' ∧ CI h' g' ∧ MI h' g' ∧ h'.2 = h.2 := by
  have P := p170 (m := (xs (i + 1)).toInt) (v := (xs (i + 2)).toInt) ci (iok_of _) (iok_of _)
  simp only [iI_of] at P
  have Q := fun (h1 : eH) (m1 : MI h1 g) => r68 (h := h1) (g := g) (m := (xs (i + 1)).toInt) (v := (xs (i + 2)).toInt) m1 (iok_of _) (iok_of _)
  simp only [iI_of] at Q
  obtain ⟨h1, h2, e1, e2, c2, m2, s2⟩ := both mi P Q
  refine ⟨h2, _, ?_, c2, m2, s2⟩
  simp only [S192_3 (L := L) (xs := xs), gFs, pFs, okq, bls, bo_true, eUp_at, eUp_eUp, eKls, cl_some, Option.toList_some, Option.toList_none, List.cons_append, List.nil_append, nI_add, inR_nI (show i + 1 < L by omega) (show L < 2 ^ 31 by omega), nI_clamp (show i + 1 < 2 ^ 31 by omega), inR_nI (show i + 2 < L by omega) (show L < 2 ^ 31 by omega), nI_clamp (show i + 2 < 2 ^ 31 by omega), e1, e2, eq_self, if_true]
theorem lw_stresses (hL : L ≤ 2560) (hi : i + 5 ≤ L) (ci : CI h g) (mi : MI h g) : ∃ h' g', lu L xs 374 [some (.float 0), some (.ref 0), some (.ref 239), some (.int (nI i))] [] h = lu L xs 758 [some (.float 0), some (.ref 0), some (.ref 239), some (.int (nI i))] [] h' ∧ CI h' g' ∧ MI h' g' ∧ h'.2 = h.2 := by
  have P := p180  hb_all ci 
  have Q := fun (h1 : eH) (m1 : MI h1 g) => r74 (h := h1) (g := g)  hb_all m1 
  obtain ⟨h1, h2, e1, e2, c2, m2, s2⟩ := both mi P Q
  refine ⟨h2, _, ?_, c2, m2, s2⟩
  simp only [S192_3 (L := L) (xs := xs), gFs, pFs, okq, bls, bo_true, eUp_at, eUp_eUp, eKls, cl_some, Option.toList_some, Option.toList_none, List.cons_append, List.nil_append, e1, e2, eq_self, if_true]
theorem lw_stress (hL : L ≤ 2560) (hi : i + 5 ≤ L) (ci : CI h g) (mi : MI h g) : ∃ h' g', lu L xs 387 [some (.float 0), some (.ref 0), some (.ref 239), some (.int (nI i))] [] h = lu L xs 758 [some (.float 0), some (.ref 0), some (.ref 239), some (.int (nI i))] [] h' ∧ CI h' g' ∧ MI h' g' ∧ h'.2 = h.2 := by
  have P := p179 (i := (xs (i + 1)).toInt) (m := (xs (i + 2)).toInt) hb_all ci (iok_of _) (iok_of _)
  simp only [iI_of] at P
  have Q := fun (h1 : eH) (m1 : MI h1 g) => r73 (h := h1) (g := g) (i := (xs (i + 1)).toInt) (m := (xs (i + 2)).toInt) hb_all m1 (iok_of _) (iok_of _)
  simp only [iI_of] at Q
  obtain ⟨h1, h2, e1, e2, c2, m2, s2⟩ := both mi P Q
  refine ⟨h2, _, ?_, c2, m2, s2⟩
  simp only [S192_3 (L := L) (xs := xs), S192_4 (L := L) (xs := xs), gFs, pFs, okq, bls, bo_true, eUp_at, eUp_eUp, eKls, cl_some, Option.toList_some, Option.toList_none, List.cons_append, List.nil_append, nI_add, inR_nI (show i + 1 < L by omega) (show L < 2 ^ 31 by omega), nI_clamp (show i + 1 < 2 ^ 31 by omega), inR_nI (show i + 2 < L by omega) (show L < 2 ^ 31 by omega), nI_clamp (show i + 2 < 2 ^ 31 by omega), e1, e2, eq_self, if_true]
theorem lw_ways (hL : L ≤ 2560) (hi : i + 5 ≤ L) (ci : CI h g) (mi : MI h g) : ∃ h' g', lu L xs 420 [some (.float 0), some (.ref 0), some (.ref 239), some (.int (nI i))] [] h = lu L xs 758 [some (.float 0), some (.ref 0), some (.ref 239), some (.int (nI i))] [] h' ∧ CI h' g' ∧ MI h' g' ∧ h'.2 = h.2 := by
  have P := p188  hb_all ci 
  have Q := fun (h1 : eH) (m1 : MI h1 g) => r79 (h := h1) (g := g)  hb_all m1 
  obtain ⟨h1, h2, e1, e2, c2, m2, s2⟩ := both mi P Q
  refine ⟨h2, _, ?_, c2, m2, s2⟩
  simp only [S192_4 (L := L) (xs := xs), gFs, pFs, okq, bls, bo_true, eUp_at, eUp_eUp, eKls, cl_some, Option.toList_some, Option.toList_none, List.cons_append, List.nil_append, e1, e2, eq_self, if_true]
theorem lw_way (hL : L ≤ 2560) (hi : i + 5 ≤ L) (ci : CI h g) (mi : MI h g) : ∃ h' g', lu L xs 433 [some (.float 0), some (.ref 0), some (.ref 239), some (.int (nI i))] [] h = lu L xs 758 [some (.float 0), some (.ref 0), some (.ref 239), some (.int (nI i))] [] h' ∧ CI h' g' ∧ MI h' g' ∧ h'.2 = h.2 := by
  have P := p187 (i := (xs (i + 1)).toInt) (j := (xs (i + 2)).toInt) (x := (xs (i + 3)).toInt) hb_all ci (iok_of _) (iok_of _) (iok_of _)
  simp only [iI_of] at P
  have Q := fun (h1 : eH) (m1 : MI h1 g) => r78 (h := h1) (g := g) (i := (xs (i + 1)).toInt) (j := (xs (i + 2)).toInt) (x := (xs (i + 3)).toInt) hb_all m1 (iok_of _) (iok_of _) (iok_of _)
  simp only [iI_of] at Q
  obtain ⟨h1, h2, e1, e2, c2, m2, s2⟩ := both mi P Q
  refine ⟨h2, _, ?_, c2, m2, s2⟩
  simp only [S192_4 (L := L) (xs := xs), gFs, pFs, okq, bls, bo_true, eUp_at, eUp_eUp, eKls, cl_some, Option.toList_some, Option.toList_none, List.cons_append, List.nil_append, nI_add, inR_nI (show i + 1 < L by omega) (show L < 2 ^ 31 by omega), nI_clamp (show i + 1 < 2 ^ 31 by omega), inR_nI (show i + 2 < L by omega) (show L < 2 ^ 31 by omega), nI_clamp (show i + 2 < 2 ^ 31 by omega), inR_nI (show i + 3 < L by omega) (show L < 2 ^ 31 by omega), nI_clamp (show i + 3 < 2 ^ 31 by omega), e1, e2, eq_self, if_true]
theorem lw_even (hL : L ≤ 2560) (hi : i + 5 ≤ L) (ci : CI h g) (mi : MI h g) : ∃ h' g', lu L xs 476 [some (.float 0), some (.ref 0), some (.ref 239), some (.int (nI i))] [] h = lu L xs 758 [some (.float 0), some (.ref 0), some (.ref 239), some (.int (nI i))] [] h' ∧ CI h' g' ∧ MI h' g' ∧ h'.2 = h.2 := by
  have P0 := p139  ci 
  have Q := fun (h1 : eH) (m1 : MI h1 g) => r50 (h := h1) (g := g)  m1 
  obtain ⟨h1, h2, e1, e2, c2, m2, s2⟩ := both (g' := g) mi ⟨h, P0, FK.refl _, ci⟩ Q
  refine ⟨h2, _, ?_, c2, m2, s2⟩
  simp only [S192_4 (L := L) (xs := xs), S192_5 (L := L) (xs := xs), gFs, pFs, okq, bls, bo_true, eUp_at, eUp_eUp, eKls, cl_some, Option.toList_some, Option.toList_none, List.cons_append, List.nil_append, e1, e2, eq_self, if_true]
theorem lw_left (hL : L ≤ 2560) (hi : i + 5 ≤ L) (ci : CI h g) (mi : MI h g) : ∃ h' g', lu L xs 489 [some (.float 0), some (.ref 0), some (.ref 239), some (.int (nI i))] [] h = lu L xs 758 [some (.float 0), some (.ref 0), some (.ref 239), some (.int (nI i))] [] h' ∧ CI h' g' ∧ MI h' g' ∧ h'.2 = h.2 := by
  have P := p159 (j := (xs (i + 1)).toInt) (x := (xs (i + 2)).toInt) ci (iok_of _) (iok_of _)
  simp only [iI_of] at P
  have Q := fun (h1 : eH) (m1 : MI h1 g) => r60 (h := h1) (g := g) (j := (xs (i + 1)).toInt) (x := (xs (i + 2)).toInt) m1 (iok_of _) (iok_of _)
  simp only [iI_of] at Q
  obtain ⟨h1, h2, e1, e2, c2, m2, s2⟩ := both mi P Q
  refine ⟨h2, _, ?_, c2, m2, s2⟩
  simp only [S192_5 (L := L) (xs := xs), gFs, pFs, okq, bls, bo_true, eUp_at, eUp_eUp, eKls, cl_some, Option.toList_some, Option.toList_none, List.cons_append, List.nil_append, nI_add, inR_nI (show i + 1 < L by omega) (show L < 2 ^ 31 by omega), nI_clamp (show i + 1 < 2 ^ 31 by omega), inR_nI (show i + 2 < L by omega) (show L < 2 ^ 31 by omega), nI_clamp (show i + 2 < 2 ^ 31 by omega), e1, e2, eq_self, if_true]
theorem lw_borne (hL : L ≤ 2560) (hi : i + 5 ≤ L) (ci : CI h g) (mi : MI h g) : ∃ h' g', lu L xs 522 [some (.float 0), some (.ref 0), some (.ref 239), some (.int (nI i))] [] h = lu L xs 758 [some (.float 0), some (.ref 0), some (.ref 239), some (.int (nI i))] [] h' ∧ CI h' g' ∧ MI h' g' ∧ h'.2 = h.2 := by
  have P := p133  hb_all ci 
  have Q := fun (h1 : eH) (m1 : MI h1 g) => r40 (h := h1) (g := g)  hb_all m1 
  obtain ⟨h1, h2, e1, e2, c2, m2, s2⟩ := both mi P Q
  refine ⟨h2, _, ?_, c2, m2, s2⟩
  simp only [S192_5 (L := L) (xs := xs), gFs, pFs, okq, bls, bo_true, eUp_at, eUp_eUp, eKls, cl_some, Option.toList_some, Option.toList_none, List.cons_append, List.nil_append, e1, e2, eq_self, if_true]
theorem lw_bears (hL : L ≤ 2560) (hi : i + 5 ≤ L) (ci : CI h g) (mi : MI h g) : ∃ h' g', lu L xs 535 [some (.float 0), some (.ref 0), some (.ref 239), some (.int (nI i))] [] h = lu L xs 758 [some (.float 0), some (.ref 0), some (.ref 239), some (.int (nI i))] [] h' ∧ CI h' g' ∧ MI h' g' ∧ h'.2 = h.2 := by
  have P := p131 (m := (xs (i + 1)).toInt) hb_all ci (iok_of _)
  simp only [iI_of] at P
  have Q := fun (h1 : eH) (m1 : MI h1 g) => r39 (h := h1) (g := g) (m := (xs (i + 1)).toInt) hb_all m1 (iok_of _)
  simp only [iI_of] at Q
  obtain ⟨h1, h2, e1, e2, c2, m2, s2⟩ := both mi P Q
  refine ⟨h2, _, ?_, c2, m2, s2⟩
  simp only [S192_5 (L := L) (xs := xs), gFs, pFs, okq, bls, bo_true, eUp_at, eUp_eUp, eKls, cl_some, Option.toList_some, Option.toList_none, List.cons_append, List.nil_append, nI_add, inR_nI (show i + 1 < L by omega) (show L < 2 ^ 31 by omega), nI_clamp (show i + 1 < 2 ^ 31 by omega), e1, e2, eq_self, if_true]
theorem lw_shaped (hL : L ≤ 2560) (hi : i + 5 ≤ L) (ci : CI h g) (mi : MI h g) : ∃ h' g', lu L xs 558 [some (.float 0), some (.ref 0), some (.ref 239), some (.int (nI i))] [] h = lu L xs 758 [some (.float 0), some (.ref 0), some (.ref 239), some (.int (nI i))] [] h' ∧ CI h' g' ∧ MI h' g' ∧ h'.2 = h.2 := by
  have P := p174  hb_all ci 
  have Q := fun (h1 : eH) (m1 : MI h1 g) => r71 (h := h1) (g := g)  hb_all m1 
  obtain ⟨h1, h2, e1, e2, c2, m2, s2⟩ := both mi P Q
  refine ⟨h2, _, ?_, c2, m2, s2⟩
  simp only [S192_5 (L := L) (xs := xs), gFs, pFs, okq, bls, bo_true, eUp_at, eUp_eUp, eKls, cl_some, Option.toList_some, Option.toList_none, List.cons_append, List.nil_append, e1, e2, eq_self, if_true]
theorem lw_shape (hL : L ≤ 2560) (hi : i + 5 ≤ L) (ci : CI h g) (mi : MI h g) : ∃ h' g', lu L xs 571 [some (.float 0), some (.ref 0), some (.ref 239), some (.int (nI i))] [] h = lu L xs 758 [some (.float 0), some (.ref 0), some (.ref 239), some (.int (nI i))] [] h' ∧ CI h' g' ∧ MI h' g' ∧ h'.2 = h.2 := by
  have P := p173 (j := (xs (i + 1)).toInt) (x := (xs (i + 2)).toInt) hb_all ci (iok_of _) (iok_of _)
  simp only [iI_of] at P
  have Q := fun (h1 : eH) (m1 : MI h1 g) => r70 (h := h1) (g := g) (j := (xs (i + 1)).toInt) (x := (xs (i + 2)).toInt) hb_all m1 (iok_of _) (iok_of _)
  simp only [iI_of] at Q
  obtain ⟨h1, h2, e1, e2, c2, m2, s2⟩ := both mi P Q
  refine ⟨h2, _, ?_, c2, m2, s2⟩
  simp only [S192_6 (L := L) (xs := xs), gFs, pFs, okq, bls, bo_true, eUp_at, eUp_eUp, eKls, cl_some, Option.toList_some, Option.toList_none, List.cons_append, List.nil_append, nI_add, inR_nI (show i + 1 < L by omega) (show L < 2 ^ 31 by omega), nI_clamp (show i + 1 < 2 ^ 31 by omega), inR_nI (show i + 2 < L by omega) (show L < 2 ^ 31 by omega), nI_clamp (show i + 2 < 2 ^ 31 by omega), e1, e2, eq_self, if_true]
theorem lw_stiff (hL : L ≤ 2560) (hi : i + 5 ≤ L) (ci : CI h g) (mi : MI h g) : ∃ h' g', lu L xs 617 [some (.float 0), some (.ref 0), some (.ref 239), some (.int (nI i))] [] h = lu L xs 758 [some (.float 0), some (.ref 0), some (.ref 239), some (.int (nI i))] [] h' ∧ CI h' g' ∧ MI h' g' ∧ h'.2 = h.2 := by
  have P := p178  hb_all ci 
  have Q := fun (h1 : eH) (m1 : MI h1 g) => r72 (h := h1) (g := g)  hb_all m1 
  obtain ⟨h1, h2, e1, e2, c2, m2, s2⟩ := both mi P Q
  refine ⟨h2, _, ?_, c2, m2, s2⟩
  simp only [S192_6 (L := L) (xs := xs), gFs, pFs, okq, bls, bo_true, eUp_at, eUp_eUp, eKls, cl_some, Option.toList_some, Option.toList_none, List.cons_append, List.nil_append, e1, e2, eq_self, if_true]
theorem lw_look (hL : L ≤ 2560) (hi : i + 5 ≤ L) (ci : CI h g) (mi : MI h g) : ∃ h' g', lu L xs 630 [some (.float 0), some (.ref 0), some (.ref 239), some (.int (nI i))] [] h = lu L xs 758 [some (.float 0), some (.ref 0), some (.ref 239), some (.int (nI i))] [] h' ∧ CI h' g' ∧ MI h' g' ∧ h'.2 = h.2 := by
  have P0 := p161 (w := (xs (i + 1)).toInt) ci (iok_of _)
  simp only [iI_of] at P0
  have Q := fun (h1 : eH) (m1 : MI h1 g) => r63 (h := h1) (g := g) (w := (xs (i + 1)).toInt) m1 (iok_of _)
  simp only [iI_of] at Q
  obtain ⟨h1, h2, e1, e2, c2, m2, s2⟩ := both (g' := g) mi ⟨h, P0, FK.refl _, ci⟩ Q
  refine ⟨h2, _, ?_, c2, m2, s2⟩
  simp only [S192_6 (L := L) (xs := xs), gFs, pFs, okq, bls, bo_true, eUp_at, eUp_eUp, eKls, cl_some, Option.toList_some, Option.toList_none, List.cons_append, List.nil_append, nI_add, inR_nI (show i + 1 < L by omega) (show L < 2 ^ 31 by omega), nI_clamp (show i + 1 < 2 ^ 31 by omega), e1, e2, eq_self, if_true]
theorem lw_told (hL : L ≤ 2560) (hi : i + 5 ≤ L) (ci : CI h g) (mi : MI h g) : ∃ h' g', lu L xs 702 [some (.float 0), some (.ref 0), some (.ref 239), some (.int (nI i))] [] h = lu L xs 758 [some (.float 0), some (.ref 0), some (.ref 239), some (.int (nI i))] [] h' ∧ CI h' g' ∧ MI h' g' ∧ h'.2 = h.2 := by
  have P := p186 (k := (xs (i + 1)).toInt) (w := (xs (i + 2)).toInt) hb_all ci (iok_of _) (iok_of _)
  simp only [iI_of] at P
  have Q := fun (h1 : eH) (m1 : MI h1 g) => r77 (h := h1) (g := g) (k := (xs (i + 1)).toInt) (w := (xs (i + 2)).toInt) hb_all m1 (iok_of _) (iok_of _)
  simp only [iI_of] at Q
  obtain ⟨h1, h2, e1, e2, c2, m2, s2⟩ := both mi P Q
  refine ⟨h2, _, ?_, c2, m2, s2⟩
  simp only [S192_7 (L := L) (xs := xs), gFs, pFs, okq, bls, bo_true, eUp_at, eUp_eUp, eKls, cl_some, Option.toList_some, Option.toList_none, List.cons_append, List.nil_append, nI_add, inR_nI (show i + 1 < L by omega) (show L < 2 ^ 31 by omega), nI_clamp (show i + 1 < 2 ^ 31 by omega), inR_nI (show i + 2 < L by omega) (show L < 2 ^ 31 by omega), nI_clamp (show i + 2 < 2 ^ 31 by omega), e1, e2, eq_self, if_true]
theorem lw_count (hL : L ≤ 2560) (hi : i + 5 ≤ L) (ci : CI h g) (mi : MI h g) : ∃ h' g', lu L xs 735 [some (.float 0), some (.ref 0), some (.ref 239), some (.int (nI i))] [] h = lu L xs 758 [some (.float 0), some (.ref 0), some (.ref 239), some (.int (nI i))] [] h' ∧ CI h' g' ∧ MI h' g' ∧ h'.2 = h.2 := by
  have P0 := p136 (w := (xs (i + 1)).toInt) ci (iok_of _)
  simp only [iI_of] at P0
  have Q := fun (h1 : eH) (m1 : MI h1 g) => r46 (h := h1) (g := g) (w := (xs (i + 1)).toInt) m1 (iok_of _)
  simp only [iI_of] at Q
  obtain ⟨h1, h2, e1, e2, c2, m2, s2⟩ := both (g' := g) mi ⟨h, P0, FK.refl _, ci⟩ Q
  refine ⟨h2, _, ?_, c2, m2, s2⟩
  simp only [S192_8 (L := L) (xs := xs), gFs, pFs, okq, bls, bo_true, eUp_at, eUp_eUp, eKls, cl_some, Option.toList_some, Option.toList_none, List.cons_append, List.nil_append, nI_add, inR_nI (show i + 1 < L by omega) (show L < 2 ^ 31 by omega), nI_clamp (show i + 1 < 2 ^ 31 by omega), e1, e2, eq_self, if_true]
theorem lw_write (hL : L ≤ 2560) (hi : i + 5 ≤ L) (ci : CI h g) (mi : MI h g) : ∃ h' g', lu L xs 202 [some (.float 0), some (.ref 0), some (.ref 239), some (.int (nI i))] [] h = lu L xs 758 [some (.float 0), some (.ref 0), some (.ref 239), some (.int (nI i))] [] h' ∧ CI h' g' ∧ MI h' g' ∧ h'.2 = h.2 := by
  have P := p191 (s := (xs (i + 1)).toInt) (i := (xs (i + 2)).toInt) (v := ((xs (i + 3)).toInt64 <<< ((nI 32).toInt64 &&& 63)) ||| ((xs (i + 4)).toInt64 &&& lN 4294967295)) ci (iok_of _) (iok_of _)
  have Q := fun (h1 : eH) (m1 : MI h1 g) => r80 (h := h1) (g := g) (sl := (xs (i + 1)).toInt) (i := (xs (i + 2)).toInt) (v := ((xs (i + 3)).toInt64 <<< ((nI 32).toInt64 &&& 63)) ||| ((xs (i + 4)).toInt64 &&& lN 4294967295)) m1 (iok_of _) (iok_of _)
  simp only [iI_of] at P Q
  obtain ⟨h1, h2, e1, e2, c2, m2, s2⟩ := both mi P Q
  refine ⟨h2, _, ?_, c2, m2, s2⟩
  simp only [S192_1 (L := L) (xs := xs), S192_2 (L := L) (xs := xs), gFs, pFs, okq, bls, bo_true, eUp_at, eUp_eUp, eKls, cl_some, Option.toList_some, Option.toList_none, List.cons_append, List.nil_append, nI_add, inR_nI (show i + 1 < L by omega) (show L < 2 ^ 31 by omega), nI_clamp (show i + 1 < 2 ^ 31 by omega), inR_nI (show i + 2 < L by omega) (show L < 2 ^ 31 by omega), nI_clamp (show i + 2 < 2 ^ 31 by omega), inR_nI (show i + 3 < L by omega) (show L < 2 ^ 31 by omega), nI_clamp (show i + 3 < 2 ^ 31 by omega), inR_nI (show i + 4 < L by omega) (show L < 2 ^ 31 by omega), nI_clamp (show i + 4 < 2 ^ 31 by omega), e1, e2, eq_self, if_true]
theorem lw_part (hL : L ≤ 2560) (hi : i + 5 ≤ L) (ci : CI h g) (mi : MI h g) : ∃ h' g', lu L xs 653 [some (.float 0), some (.ref 0), some (.ref 239), some (.int (nI i))] [] h = lu L xs 758 [some (.float 0), some (.ref 0), some (.ref 239), some (.int (nI i))] [] h' ∧ CI h' g' ∧ MI h' g' ∧ h'.2 = h.2 := by
  by_cases q : xs (i + 1) = 0
  · have P0 : den 169 [.ref 0, .int (nI 0), .int (iI (xs (i + 2)).toInt)] h = some (some (.int (iI (partR g.2.2 false (xs (i + 2)).toInt))), h) := p169 (b0 := false) ci (iok_of _)
    have Q0 := fun (h1 : eH) (m1 : MI h1 g) => (show ∃ h2, den 67 [.ref 239, .int (nI 0), .int (iI (xs (i + 2)).toInt)] h1 = some (some (.int (iI (partR g.2.2 false (xs (i + 2)).toInt))), h2) ∧ FJ h1 h2 ∧ MI h2 g from r67 (b := false) m1 (iok_of _))
    simp only [iI_of] at P0 Q0
    obtain ⟨h1, h2, e1, e2, c2, m2, s2⟩ := both (g' := g) mi ⟨h, P0, FK.refl _, ci⟩ Q0
    refine ⟨h2, _, ?_, c2, m2, s2⟩
    simp only [S192_6 (L := L) (xs := xs), S192_7 (L := L) (xs := xs), gFs, pFs, okq, bls, bo_true, eUp_at, eUp_eUp, eKls, cl_some, Option.toList_some, Option.toList_none, List.cons_append, List.nil_append, nI_add, inR_nI (show i + 1 < L by omega) (show L < 2 ^ 31 by omega), nI_clamp (show i + 1 < 2 ^ 31 by omega), inR_nI (show i + 2 < L by omega) (show L < 2 ^ 31 by omega), nI_clamp (show i + 2 < 2 ^ 31 by omega), if_pos q, e1, e2, eq_self, if_true]
  · have P0 : den 169 [.ref 0, .int (nI 1), .int (iI (xs (i + 2)).toInt)] h = some (some (.int (iI (partR g.2.2 true (xs (i + 2)).toInt))), h) := p169 (b0 := true) ci (iok_of _)
    have Q0 := fun (h1 : eH) (m1 : MI h1 g) => (show ∃ h2, den 67 [.ref 239, .int (nI 1), .int (iI (xs (i + 2)).toInt)] h1 = some (some (.int (iI (partR g.2.2 true (xs (i + 2)).toInt))), h2) ∧ FJ h1 h2 ∧ MI h2 g from r67 (b := true) m1 (iok_of _))
    simp only [iI_of] at P0 Q0
    obtain ⟨h1, h2, e1, e2, c2, m2, s2⟩ := both (g' := g) mi ⟨h, P0, FK.refl _, ci⟩ Q0
    refine ⟨h2, _, ?_, c2, m2, s2⟩
    simp only [S192_6 (L := L) (xs := xs), S192_7 (L := L) (xs := xs), gFs, pFs, okq, bls, bo_true, eUp_at, eUp_eUp, eKls, cl_some, Option.toList_some, Option.toList_none, List.cons_append, List.nil_append, nI_add, inR_nI (show i + 1 < L by omega) (show L < 2 ^ 31 by omega), nI_clamp (show i + 1 < 2 ^ 31 by omega), inR_nI (show i + 2 < L by omega) (show L < 2 ^ 31 by omega), nI_clamp (show i + 2 < 2 ^ 31 by omega), if_neg q, e1, e2, eq_self, if_true]
theorem lw_tight (hL : L ≤ 2560) (hi : i + 5 ≤ L) (ci : CI h g) (mi : MI h g) : ∃ h' g', lu L xs 604 [some (.float 0), some (.ref 0), some (.ref 239), some (.int (nI i))] [] h = lu L xs 758 [some (.float 0), some (.ref 0), some (.ref 239), some (.int (nI i))] [] h' ∧ CI h' g' ∧ MI h' g' ∧ h'.2 = h.2 := by
  obtain ⟨h1, r, e1, f1, c1, t1, t2⟩ := p183 hb_all ci
  obtain ⟨h2, r', e2, f2, m2, u1, u2⟩ := r76 hb_all (mi.fk f1)
  have er : r' = r := by
    by_cases q : 3 < nM g.2.1 - (sF g.2.1).2.1
    · rw [t1 q, u1 q]
    · rcases t2 (by omega) with ⟨x1, x2⟩ | ⟨x1, x2⟩ <;> rcases u2 (by omega) with ⟨y1, y2⟩ | ⟨y1, y2⟩
      · rw [x1, y1]
      · exact absurd x2 y2
      · exact absurd y2 x2
      · rw [x1, y1]
  rw [er] at e2
  refine ⟨h2, g, ?_, c1.fj f2, m2, f2.1.trans f1.1⟩
  simp only [S192_6 (L := L) (xs := xs), gFs, pFs, okq, bls, bo_true, eUp_at, eUp_eUp, eKls, cl_some, Option.toList_some, Option.toList_none, List.cons_append, List.nil_append, e1, e2, eq_self, if_true]
end LWO
