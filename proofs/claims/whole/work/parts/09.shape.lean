def s1_kd : List Nat := [11, 1, 100, 100, 9, 100, 100, 9, 100, 100, 9, 100, 100, 9, 100, 100, 100, 100, 0, 100, 100, 100, 100, 100, 1, 100, 100, 9, 100, 100, 9, 100, 100, 9, 100, 100, 9, 100, 100, 100, 100, 0, 100, 100, 100, 100, 100, 5, 100, 100, 7, 7, 0, 100, 100, 100, 100, 100, 10, 102, 0, 100, 100, 100, 100, 100, 0, 100, 100, 100, 100, 100, 0, 100, 100, 100, 100, 100, 0, 100, 100, 100, 100, 100, 0, 100, 100, 100, 100, 100, 0, 100, 100, 100, 100, 100, 8, 101, 100, 100, 100, 3, 9, 100, 100, 100, 2, 100, 100, 100, 6, 100, 100, 4, 100]
def s1_nf : List Nat := [12, 14, 8, 8, 4, 80, 0, 4, 80, 400, 4, 60, 0, 4, 80, 0, 36, 600, 9, 64, 8, 8, 8, 8, 14, 8, 8, 4, 80, 0, 4, 80, 400, 4, 60, 0, 4, 80, 0, 36, 600, 9, 64, 8, 8, 8, 8, 2, 8, 32, 4, 4, 9, 64, 8, 8, 8, 8, 3, 6, 9, 64, 8, 8, 8, 8, 9, 64, 8, 8, 8, 8, 9, 64, 8, 8, 8, 8, 9, 64, 8, 8, 8, 8, 9, 64, 8, 8, 8, 8, 9, 64, 8, 8, 8, 8, 6, 400, 401, 401, 401, 10, 4, 80, 400, 32, 5, 8, 8, 8, 2, 8, 8, 1, 256]
def s1_rf : List (List (Option Nat)) := [[some 1, some 24, none, some 50, some 51, some 58, some 96, some 101, some 47, some 106, some 110, some 113], [none, none, none, none, some 2, some 3, some 4, some 7, some 10, some 13, some 16, none, some 17, some 18], [], [], [some 5, some 6, none, none], [], [], [some 8, some 9, none, none], [], [], [some 11, some 12, none, none], [], [], [some 14, some 15, none, none], [], [], [], [], [some 19, some 20, some 21, some 22, some 23, none, none, none, none], [], [], [], [], [], [none, none, none, none, some 25, some 26, some 27, some 30, some 33, some 36, some 39, none, some 40, some 41], [], [], [some 28, some 29, none, none], [], [], [some 31, some 32, none, none], [], [], [some 34, some 35, none, none], [], [], [some 37, some 38, none, none], [], [], [], [], [some 42, some 43, some 44, some 45, some 46, none, none, none, none], [], [], [], [], [], [some 48, some 49], [], [], [some 1, some 18, some 47, none], [some 1, some 52, some 47, none], [some 53, some 54, some 55, some 56, some 57, none, none, none, none], [], [], [], [], [], [some 59, none, none], [some 60, some 66, some 72, some 78, some 84, some 90], [some 61, some 62, some 63, some 64, some 65, none, none, none, none], [], [], [], [], [], [some 67, some 68, some 69, some 70, some 71, none, none, none, none], [], [], [], [], [], [some 73, some 74, some 75, some 76, some 77, none, none, none, none], [], [], [], [], [], [some 79, some 80, some 81, some 82, some 83, none, none, none, none], [], [], [], [], [], [some 85, some 86, some 87, some 88, some 89, none, none, none, none], [], [], [], [], [], [some 91, some 92, some 93, some 94, some 95, none, none, none, none], [], [], [], [], [], [some 97, none, some 98, some 99, some 100, none], [], [], [], [], [some 96, some 102, none, none, none, none, none, some 105, none, none], [some 103, some 104, none, none], [], [], [], [none, some 107, some 108, some 109, none], [], [], [], [some 111, some 112], [], [], [some 114], []]
def S1 : z_S := (fun c => s1_kd.getD c 999, fun c => s1_nf.getD c 0, fun c k => (s1_rf.getD c []).getD k none, 115)
theorem S1_lt {c : Nat} (h : S1.1 c < 200) : c < 115 := by
  rcases Nat.lt_or_ge c 115 with q | q
  · exact q
  · have h2 : S1.1 c = 999 := by
      show s1_kd.getD c 999 = 999
      rw [List.getD_eq_getElem?_getD, List.getElem?_eq_none (by show 115 ≤ c; exact q)]; rfl
    omega
theorem S1_nf : ∀ c, c < 115 → ((z_cl[S1.1 c]?).map (fun q => q.2.2 == S1.2.1 c)).getD true = true := by decide +kernel
theorem S1_ok : z_ok S1 := by
  refine ⟨fun c h => S1_lt h, fun c q h => ?_⟩
  have hk : S1.1 c < 13 := (List.getElem?_eq_some_iff.mp h).1
  have h2 := S1_nf c (S1_lt (by omega))
  rw [h] at h2
  exact (beq_iff_eq.mp h2).symm
def s2_kd : List Nat := [12, 100, 100, 100, 100, 100, 100, 100, 100, 100, 100, 100, 100, 100, 100, 100, 100, 100, 100, 100, 100, 100, 100, 100, 100, 100, 100, 100, 100, 100, 100, 100, 100, 100]
def s2_nf : List Nat := [61, 100, 600, 100, 8, 8, 600, 400, 145, 2, 48, 48, 48, 48, 1200, 1200, 40, 96, 72, 160, 8, 420, 8, 8, 8, 8, 8, 8, 8, 12, 12, 12, 256, 2000]
def s2_rf : List (List (Option Nat)) := [[none, some 1, some 2, none, some 3, none, none, none, none, none, some 4, some 5, some 6, some 7, none, none, none, none, none, some 8, some 9, some 10, some 11, some 12, some 13, some 14, some 15, none, none, none, some 16, none, none, none, none, none, none, some 17, none, some 18, none, some 19, some 20, some 21, none, some 22, some 23, some 24, some 25, some 26, some 27, some 28, none, some 29, some 30, some 31, some 32, none, none, none, some 33], [], [], [], [], [], [], [], [], [], [], [], [], [], [], [], [], [], [], [], [], [], [], [], [], [], [], [], [], [], [], [], [], []]
def S2 : z_S := (fun c => s2_kd.getD c 999, fun c => s2_nf.getD c 0, fun c k => (s2_rf.getD c []).getD k none, 34)
theorem S2_lt {c : Nat} (h : S2.1 c < 200) : c < 34 := by
  rcases Nat.lt_or_ge c 34 with q | q
  · exact q
  · have h2 : S2.1 c = 999 := by
      show s2_kd.getD c 999 = 999
      rw [List.getD_eq_getElem?_getD, List.getElem?_eq_none (by show 34 ≤ c; exact q)]; rfl
    omega
theorem S2_nf : ∀ c, c < 34 → ((z_cl[S2.1 c]?).map (fun q => q.2.2 == S2.2.1 c)).getD true = true := by decide +kernel
theorem S2_ok : z_ok S2 := by
  refine ⟨fun c h => S2_lt h, fun c q h => ?_⟩
  have hk : S2.1 c < 13 := (List.getElem?_eq_some_iff.mp h).1
  have h2 := S2_nf c (S2_lt (by omega))
  rw [h] at h2
  exact (beq_iff_eq.mp h2).symm
def z_sb (c : Nat) : Nat := if c = 50 then 18 else 52
theorem sh0_r0 {c : Nat} (h : S1.1 c = 0) : S1.2.2.1 c 0 = some (c + 1) := (show ∀ c, c < 115 → S1.1 c = 0 → S1.2.2.1 c 0 = some (c + 1) by decide +kernel) c (S1_lt (by omega)) h
theorem sh0_k0 {c : Nat} (h : S1.1 c = 0) : S1.1 (c + 1) = 100 := (show ∀ c, c < 115 → S1.1 c = 0 → S1.1 (c + 1) = 100 by decide +kernel) c (S1_lt (by omega)) h
theorem sh0_l0 {c : Nat} (h : S1.1 c = 0) : S1.2.1 (c + 1) = 64 := (show ∀ c, c < 115 → S1.1 c = 0 → S1.2.1 (c + 1) = 64 by decide +kernel) c (S1_lt (by omega)) h
theorem sh0_r1 {c : Nat} (h : S1.1 c = 0) : S1.2.2.1 c 1 = some (c + 2) := (show ∀ c, c < 115 → S1.1 c = 0 → S1.2.2.1 c 1 = some (c + 2) by decide +kernel) c (S1_lt (by omega)) h
theorem sh0_k1 {c : Nat} (h : S1.1 c = 0) : S1.1 (c + 2) = 100 := (show ∀ c, c < 115 → S1.1 c = 0 → S1.1 (c + 2) = 100 by decide +kernel) c (S1_lt (by omega)) h
theorem sh0_l1 {c : Nat} (h : S1.1 c = 0) : S1.2.1 (c + 2) = 8 := (show ∀ c, c < 115 → S1.1 c = 0 → S1.2.1 (c + 2) = 8 by decide +kernel) c (S1_lt (by omega)) h
theorem sh0_r2 {c : Nat} (h : S1.1 c = 0) : S1.2.2.1 c 2 = some (c + 3) := (show ∀ c, c < 115 → S1.1 c = 0 → S1.2.2.1 c 2 = some (c + 3) by decide +kernel) c (S1_lt (by omega)) h
theorem sh0_k2 {c : Nat} (h : S1.1 c = 0) : S1.1 (c + 3) = 100 := (show ∀ c, c < 115 → S1.1 c = 0 → S1.1 (c + 3) = 100 by decide +kernel) c (S1_lt (by omega)) h
theorem sh0_l2 {c : Nat} (h : S1.1 c = 0) : S1.2.1 (c + 3) = 8 := (show ∀ c, c < 115 → S1.1 c = 0 → S1.2.1 (c + 3) = 8 by decide +kernel) c (S1_lt (by omega)) h
theorem sh0_r3 {c : Nat} (h : S1.1 c = 0) : S1.2.2.1 c 3 = some (c + 4) := (show ∀ c, c < 115 → S1.1 c = 0 → S1.2.2.1 c 3 = some (c + 4) by decide +kernel) c (S1_lt (by omega)) h
theorem sh0_k3 {c : Nat} (h : S1.1 c = 0) : S1.1 (c + 4) = 100 := (show ∀ c, c < 115 → S1.1 c = 0 → S1.1 (c + 4) = 100 by decide +kernel) c (S1_lt (by omega)) h
theorem sh0_l3 {c : Nat} (h : S1.1 c = 0) : S1.2.1 (c + 4) = 8 := (show ∀ c, c < 115 → S1.1 c = 0 → S1.2.1 (c + 4) = 8 by decide +kernel) c (S1_lt (by omega)) h
theorem sh0_r4 {c : Nat} (h : S1.1 c = 0) : S1.2.2.1 c 4 = some (c + 5) := (show ∀ c, c < 115 → S1.1 c = 0 → S1.2.2.1 c 4 = some (c + 5) by decide +kernel) c (S1_lt (by omega)) h
theorem sh0_k4 {c : Nat} (h : S1.1 c = 0) : S1.1 (c + 5) = 100 := (show ∀ c, c < 115 → S1.1 c = 0 → S1.1 (c + 5) = 100 by decide +kernel) c (S1_lt (by omega)) h
theorem sh0_l4 {c : Nat} (h : S1.1 c = 0) : S1.2.1 (c + 5) = 8 := (show ∀ c, c < 115 → S1.1 c = 0 → S1.2.1 (c + 5) = 8 by decide +kernel) c (S1_lt (by omega)) h
theorem sh0_n5 {c : Nat} (h : S1.1 c = 0) : S1.2.2.1 c 5 = none := (show ∀ c, c < 115 → S1.1 c = 0 → S1.2.2.1 c 5 = none by decide +kernel) c (S1_lt (by omega)) h
theorem sh0_n6 {c : Nat} (h : S1.1 c = 0) : S1.2.2.1 c 6 = none := (show ∀ c, c < 115 → S1.1 c = 0 → S1.2.2.1 c 6 = none by decide +kernel) c (S1_lt (by omega)) h
theorem sh0_n7 {c : Nat} (h : S1.1 c = 0) : S1.2.2.1 c 7 = none := (show ∀ c, c < 115 → S1.1 c = 0 → S1.2.2.1 c 7 = none by decide +kernel) c (S1_lt (by omega)) h
theorem sh0_n8 {c : Nat} (h : S1.1 c = 0) : S1.2.2.1 c 8 = none := (show ∀ c, c < 115 → S1.1 c = 0 → S1.2.2.1 c 8 = none by decide +kernel) c (S1_lt (by omega)) h
theorem sh1_n0 {c : Nat} (h : S1.1 c = 1) : S1.2.2.1 c 0 = none := (show ∀ c, c < 115 → S1.1 c = 1 → S1.2.2.1 c 0 = none by decide +kernel) c (S1_lt (by omega)) h
theorem sh1_n1 {c : Nat} (h : S1.1 c = 1) : S1.2.2.1 c 1 = none := (show ∀ c, c < 115 → S1.1 c = 1 → S1.2.2.1 c 1 = none by decide +kernel) c (S1_lt (by omega)) h
theorem sh1_n2 {c : Nat} (h : S1.1 c = 1) : S1.2.2.1 c 2 = none := (show ∀ c, c < 115 → S1.1 c = 1 → S1.2.2.1 c 2 = none by decide +kernel) c (S1_lt (by omega)) h
theorem sh1_n3 {c : Nat} (h : S1.1 c = 1) : S1.2.2.1 c 3 = none := (show ∀ c, c < 115 → S1.1 c = 1 → S1.2.2.1 c 3 = none by decide +kernel) c (S1_lt (by omega)) h
theorem sh1_r4 {c : Nat} (h : S1.1 c = 1) : S1.2.2.1 c 4 = some (c + 1) := (show ∀ c, c < 115 → S1.1 c = 1 → S1.2.2.1 c 4 = some (c + 1) by decide +kernel) c (S1_lt (by omega)) h
theorem sh1_k4 {c : Nat} (h : S1.1 c = 1) : S1.1 (c + 1) = 100 := (show ∀ c, c < 115 → S1.1 c = 1 → S1.1 (c + 1) = 100 by decide +kernel) c (S1_lt (by omega)) h
theorem sh1_l4 {c : Nat} (h : S1.1 c = 1) : S1.2.1 (c + 1) = 8 := (show ∀ c, c < 115 → S1.1 c = 1 → S1.2.1 (c + 1) = 8 by decide +kernel) c (S1_lt (by omega)) h
theorem sh1_r5 {c : Nat} (h : S1.1 c = 1) : S1.2.2.1 c 5 = some (c + 2) := (show ∀ c, c < 115 → S1.1 c = 1 → S1.2.2.1 c 5 = some (c + 2) by decide +kernel) c (S1_lt (by omega)) h
theorem sh1_k5 {c : Nat} (h : S1.1 c = 1) : S1.1 (c + 2) = 100 := (show ∀ c, c < 115 → S1.1 c = 1 → S1.1 (c + 2) = 100 by decide +kernel) c (S1_lt (by omega)) h
theorem sh1_l5 {c : Nat} (h : S1.1 c = 1) : S1.2.1 (c + 2) = 8 := (show ∀ c, c < 115 → S1.1 c = 1 → S1.2.1 (c + 2) = 8 by decide +kernel) c (S1_lt (by omega)) h
theorem sh1_r6 {c : Nat} (h : S1.1 c = 1) : S1.2.2.1 c 6 = some (c + 3) := (show ∀ c, c < 115 → S1.1 c = 1 → S1.2.2.1 c 6 = some (c + 3) by decide +kernel) c (S1_lt (by omega)) h
theorem sh1_k6 {c : Nat} (h : S1.1 c = 1) : S1.1 (c + 3) = 9 := (show ∀ c, c < 115 → S1.1 c = 1 → S1.1 (c + 3) = 9 by decide +kernel) c (S1_lt (by omega)) h
theorem sh1_r7 {c : Nat} (h : S1.1 c = 1) : S1.2.2.1 c 7 = some (c + 6) := (show ∀ c, c < 115 → S1.1 c = 1 → S1.2.2.1 c 7 = some (c + 6) by decide +kernel) c (S1_lt (by omega)) h
theorem sh1_k7 {c : Nat} (h : S1.1 c = 1) : S1.1 (c + 6) = 9 := (show ∀ c, c < 115 → S1.1 c = 1 → S1.1 (c + 6) = 9 by decide +kernel) c (S1_lt (by omega)) h
theorem sh1_r8 {c : Nat} (h : S1.1 c = 1) : S1.2.2.1 c 8 = some (c + 9) := (show ∀ c, c < 115 → S1.1 c = 1 → S1.2.2.1 c 8 = some (c + 9) by decide +kernel) c (S1_lt (by omega)) h
theorem sh1_k8 {c : Nat} (h : S1.1 c = 1) : S1.1 (c + 9) = 9 := (show ∀ c, c < 115 → S1.1 c = 1 → S1.1 (c + 9) = 9 by decide +kernel) c (S1_lt (by omega)) h
theorem sh1_r9 {c : Nat} (h : S1.1 c = 1) : S1.2.2.1 c 9 = some (c + 12) := (show ∀ c, c < 115 → S1.1 c = 1 → S1.2.2.1 c 9 = some (c + 12) by decide +kernel) c (S1_lt (by omega)) h
theorem sh1_k9 {c : Nat} (h : S1.1 c = 1) : S1.1 (c + 12) = 9 := (show ∀ c, c < 115 → S1.1 c = 1 → S1.1 (c + 12) = 9 by decide +kernel) c (S1_lt (by omega)) h
theorem sh1_r10 {c : Nat} (h : S1.1 c = 1) : S1.2.2.1 c 10 = some (c + 15) := (show ∀ c, c < 115 → S1.1 c = 1 → S1.2.2.1 c 10 = some (c + 15) by decide +kernel) c (S1_lt (by omega)) h
theorem sh1_k10 {c : Nat} (h : S1.1 c = 1) : S1.1 (c + 15) = 100 := (show ∀ c, c < 115 → S1.1 c = 1 → S1.1 (c + 15) = 100 by decide +kernel) c (S1_lt (by omega)) h
theorem sh1_l10 {c : Nat} (h : S1.1 c = 1) : S1.2.1 (c + 15) = 36 := (show ∀ c, c < 115 → S1.1 c = 1 → S1.2.1 (c + 15) = 36 by decide +kernel) c (S1_lt (by omega)) h
theorem sh1_n11 {c : Nat} (h : S1.1 c = 1) : S1.2.2.1 c 11 = none := (show ∀ c, c < 115 → S1.1 c = 1 → S1.2.2.1 c 11 = none by decide +kernel) c (S1_lt (by omega)) h
theorem sh1_r12 {c : Nat} (h : S1.1 c = 1) : S1.2.2.1 c 12 = some (c + 16) := (show ∀ c, c < 115 → S1.1 c = 1 → S1.2.2.1 c 12 = some (c + 16) by decide +kernel) c (S1_lt (by omega)) h
theorem sh1_k12 {c : Nat} (h : S1.1 c = 1) : S1.1 (c + 16) = 100 := (show ∀ c, c < 115 → S1.1 c = 1 → S1.1 (c + 16) = 100 by decide +kernel) c (S1_lt (by omega)) h
theorem sh1_l12 {c : Nat} (h : S1.1 c = 1) : S1.2.1 (c + 16) = 600 := (show ∀ c, c < 115 → S1.1 c = 1 → S1.2.1 (c + 16) = 600 by decide +kernel) c (S1_lt (by omega)) h
theorem sh1_r13 {c : Nat} (h : S1.1 c = 1) : S1.2.2.1 c 13 = some (c + 17) := (show ∀ c, c < 115 → S1.1 c = 1 → S1.2.2.1 c 13 = some (c + 17) by decide +kernel) c (S1_lt (by omega)) h
theorem sh1_k13 {c : Nat} (h : S1.1 c = 1) : S1.1 (c + 17) = 0 := (show ∀ c, c < 115 → S1.1 c = 1 → S1.1 (c + 17) = 0 by decide +kernel) c (S1_lt (by omega)) h
theorem sh7_r0 {c : Nat} (h : S1.1 c = 7) : S1.2.2.1 c 0 = some (1) := (show ∀ c, c < 115 → S1.1 c = 7 → S1.2.2.1 c 0 = some (1) by decide +kernel) c (S1_lt (by omega)) h
theorem sh7_r1 {c : Nat} (h : S1.1 c = 7) : S1.2.2.1 c 1 = some (z_sb c) := (show ∀ c, c < 115 → S1.1 c = 7 → S1.2.2.1 c 1 = some (z_sb c) by decide +kernel) c (S1_lt (by omega)) h
theorem sh7_k1 {c : Nat} (h : S1.1 c = 7) : S1.1 (z_sb c) = 0 := (show ∀ c, c < 115 → S1.1 c = 7 → S1.1 (z_sb c) = 0 by decide +kernel) c (S1_lt (by omega)) h
theorem sh7_r2 {c : Nat} (h : S1.1 c = 7) : S1.2.2.1 c 2 = some (47) := (show ∀ c, c < 115 → S1.1 c = 7 → S1.2.2.1 c 2 = some (47) by decide +kernel) c (S1_lt (by omega)) h
theorem sh7_n3 {c : Nat} (h : S1.1 c = 7) : S1.2.2.1 c 3 = none := (show ∀ c, c < 115 → S1.1 c = 7 → S1.2.2.1 c 3 = none by decide +kernel) c (S1_lt (by omega)) h
theorem sh9_r0 {c : Nat} (h : S1.1 c = 9) : S1.2.2.1 c 0 = some (c + 1) := (show ∀ c, c < 115 → S1.1 c = 9 → S1.2.2.1 c 0 = some (c + 1) by decide +kernel) c (S1_lt (by omega)) h
theorem sh9_k0 {c : Nat} (h : S1.1 c = 9) : S1.1 (c + 1) = 100 := (show ∀ c, c < 115 → S1.1 c = 9 → S1.1 (c + 1) = 100 by decide +kernel) c (S1_lt (by omega)) h
theorem sh9_r1 {c : Nat} (h : S1.1 c = 9) : S1.2.2.1 c 1 = some (c + 2) := (show ∀ c, c < 115 → S1.1 c = 9 → S1.2.2.1 c 1 = some (c + 2) by decide +kernel) c (S1_lt (by omega)) h
theorem sh9_k1 {c : Nat} (h : S1.1 c = 9) : S1.1 (c + 2) = 100 := (show ∀ c, c < 115 → S1.1 c = 9 → S1.1 (c + 2) = 100 by decide +kernel) c (S1_lt (by omega)) h
theorem sh9_n2 {c : Nat} (h : S1.1 c = 9) : S1.2.2.1 c 2 = none := (show ∀ c, c < 115 → S1.1 c = 9 → S1.2.2.1 c 2 = none by decide +kernel) c (S1_lt (by omega)) h
theorem sh9_n3 {c : Nat} (h : S1.1 c = 9) : S1.2.2.1 c 3 = none := (show ∀ c, c < 115 → S1.1 c = 9 → S1.2.2.1 c 3 = none by decide +kernel) c (S1_lt (by omega)) h
theorem sh_ring {i : Int32} (h : z_in i 6 = true) : S1.2.2.1 59 (z_ix i) = some (60 + 6 * z_ix i) := by
  have h2 : z_ix i < 6 := by simp only [z_in, Bool.and_eq_true, decide_eq_true_eq] at h; exact h.2
  exact (show ∀ k, k < 6 → S1.2.2.1 59 k = some (60 + 6 * k) by decide +kernel) _ h2
theorem sh_ringk {i : Int32} (h : z_in i 6 = true) : S1.1 (60 + 6 * z_ix i) = 0 := by
  have h2 : z_ix i < 6 := by simp only [z_in, Bool.and_eq_true, decide_eq_true_eq] at h; exact h.2
  exact (show ∀ k, k < 6 → S1.1 (60 + 6 * k) = 0 by decide +kernel) _ h2
