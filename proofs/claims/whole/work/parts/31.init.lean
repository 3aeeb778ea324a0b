def i1_rows : List (Nat → Int32) := [fun _ => 0, fun k => if k = 1 then 3 else 0, fun _ => 0, fun _ => 0, fun _ => 0, fun _ => 0, fun _ => 0, fun _ => 0, fun _ => 0, fun _ => 0, fun _ => 0, fun _ => 0, fun _ => 0, fun _ => 0, fun _ => 0, fun _ => 0, fun _ => 0, fun _ => 0, fun _ => 0, n_pre (fun _ => 50) 64, n_pre (fun _ => -1) 8, fun _ => 0, n_pre (fun _ => -1) 8, fun _ => 0, fun k => if k = 1 then 3 else 0, fun _ => 0, fun _ => 0, fun _ => 0, fun _ => 0, fun _ => 0, fun _ => 0, fun _ => 0, fun _ => 0, fun _ => 0, fun _ => 0, fun _ => 0, fun _ => 0, fun _ => 0, fun _ => 0, fun _ => 0, fun _ => 0, fun _ => 0, n_pre (fun _ => 50) 64, n_pre (fun _ => -1) 8, fun _ => 0, n_pre (fun _ => -1) 8, fun _ => 0, fun _ => 0, fun _ => 0, fun _ => 0, fun k => if k = 3 then 1 else 0, fun _ => 0, fun _ => 0, n_pre (fun _ => 50) 64, n_pre (fun _ => -1) 8, fun _ => 0, n_pre (fun _ => -1) 8, fun _ => 0, fun _ => 0, fun _ => 0, fun _ => 0, n_pre (fun _ => 50) 64, n_pre (fun _ => -1) 8, fun _ => 0, n_pre (fun _ => -1) 8, fun _ => 0, fun _ => 0, n_pre (fun _ => 50) 64, n_pre (fun _ => -1) 8, fun _ => 0, n_pre (fun _ => -1) 8, fun _ => 0, fun _ => 0, n_pre (fun _ => 50) 64, n_pre (fun _ => -1) 8, fun _ => 0, n_pre (fun _ => -1) 8, fun _ => 0, fun _ => 0, n_pre (fun _ => 50) 64, n_pre (fun _ => -1) 8, fun _ => 0, n_pre (fun _ => -1) 8, fun _ => 0, fun _ => 0, n_pre (fun _ => 50) 64, n_pre (fun _ => -1) 8, fun _ => 0, n_pre (fun _ => -1) 8, fun _ => 0, fun _ => 0, n_pre (fun _ => 50) 64, n_pre (fun _ => -1) 8, fun _ => 0, n_pre (fun _ => -1) 8, fun _ => 0, fun _ => 0, fun _ => 0, fun _ => 0, fun _ => 0, fun _ => 0, fun k => if k = 3 then (-1) else 0, fun _ => 0, fun _ => 0, fun _ => 0, fun _ => 0, fun _ => 0, fun _ => 0, fun _ => 0, fun _ => 0, fun _ => 0, fun _ => 0, fun _ => 0, fun _ => 0, fun _ => 0]
def i1 : z_M := fun c => i1_rows.getD c (fun _ => 0)
def i2_rows : List (Nat → Int32) := [fun k => if k = 35 then (-1) else 0, fun _ => 0, fun _ => 0, fun _ => 0, fun _ => 0, fun _ => 0, fun _ => 0, fun _ => 0, n_pre m_words 145, fun _ => 0, fun _ => 0, fun _ => 0, fun _ => 0, fun _ => 0, fun _ => 0, fun _ => 0, fun _ => 0, fun _ => 0, fun _ => 0, fun _ => 0, fun _ => 0, fun _ => 0, fun _ => 0, fun _ => 0, fun _ => 0, fun _ => 0, fun _ => 0, fun _ => 0, fun _ => 0, fun _ => 0, fun _ => 0, fun _ => 0, fun _ => 0, fun _ => 0]
def i2 : z_M := fun c => i2_rows.getD c (fun _ => 0)
/-- the addresses: of the cells, and of the two texts -/
def l_ad (N : Nat) (q adK adV : Nat → Nat) (c : Nat) : Nat := if c < N then q c else if c < 2000 then adK (c - 1000) else adV (c - 2000)
set_option maxRecDepth 100000 in
theorem l_ring (a : Nat → Nat) (q0 q1 q2 q3 q4 q5 : Nat) (h0 : a 60 = q0) (h1 : a 66 = q1) (h2 : a 72 = q2) (h3 : a 78 = q3) (h4 : a 84 = q4) (h5 : a 90 = q5) : va_up (va_up (va_up (va_up (va_up (va_up (fun _ => none) 0 (some q0)) 1 (some q1)) 2 (some q2)) 3 (some q3)) 4 (some q4)) 5 (some q5) = fun k => (S1.2.2.1 59 k).map a := by
  subst h0 h1 h2 h3 h4 h5
  funext k
  unfold va_up
  match k with
  | 0 => rfl
  | 1 => rfl
  | 2 => rfl
  | 3 => rfl
  | 4 => rfl
  | 5 => rfl
  | k + 6 =>
    rw [if_neg (by omega), if_neg (by omega), if_neg (by omega), if_neg (by omega), if_neg (by omega), if_neg (by omega)]
    rfl
set_option maxRecDepth 100000 in
theorem l_i1_0 (Y : z_Y) (q adK adV : Nat → Nat) : (w_PD Y q)[0]? = some (l_ad 115 q adK adV 0, z_E S1 Y (l_ad 115 q adK adV) i1 0) := rfl
set_option maxRecDepth 100000 in
theorem l_i1_1 (Y : z_Y) (q adK adV : Nat → Nat) : (w_PD Y q)[1]? = some (l_ad 115 q adK adV 1, z_E S1 Y (l_ad 115 q adK adV) i1 1) := rfl
set_option maxRecDepth 100000 in
theorem l_i1_2 (Y : z_Y) (q adK adV : Nat → Nat) : (w_PD Y q)[2]? = some (l_ad 115 q adK adV 2, z_E S1 Y (l_ad 115 q adK adV) i1 2) := rfl
set_option maxRecDepth 100000 in
theorem l_i1_3 (Y : z_Y) (q adK adV : Nat → Nat) : (w_PD Y q)[3]? = some (l_ad 115 q adK adV 3, z_E S1 Y (l_ad 115 q adK adV) i1 3) := rfl
set_option maxRecDepth 100000 in
theorem l_i1_4 (Y : z_Y) (q adK adV : Nat → Nat) : (w_PD Y q)[4]? = some (l_ad 115 q adK adV 4, z_E S1 Y (l_ad 115 q adK adV) i1 4) := rfl
set_option maxRecDepth 100000 in
theorem l_i1_5 (Y : z_Y) (q adK adV : Nat → Nat) : (w_PD Y q)[5]? = some (l_ad 115 q adK adV 5, z_E S1 Y (l_ad 115 q adK adV) i1 5) := rfl
set_option maxRecDepth 100000 in
theorem l_i1_6 (Y : z_Y) (q adK adV : Nat → Nat) : (w_PD Y q)[6]? = some (l_ad 115 q adK adV 6, z_E S1 Y (l_ad 115 q adK adV) i1 6) := rfl
set_option maxRecDepth 100000 in
theorem l_i1_7 (Y : z_Y) (q adK adV : Nat → Nat) : (w_PD Y q)[7]? = some (l_ad 115 q adK adV 7, z_E S1 Y (l_ad 115 q adK adV) i1 7) := rfl
set_option maxRecDepth 100000 in
theorem l_i1_8 (Y : z_Y) (q adK adV : Nat → Nat) : (w_PD Y q)[8]? = some (l_ad 115 q adK adV 8, z_E S1 Y (l_ad 115 q adK adV) i1 8) := rfl
set_option maxRecDepth 100000 in
theorem l_i1_9 (Y : z_Y) (q adK adV : Nat → Nat) : (w_PD Y q)[9]? = some (l_ad 115 q adK adV 9, z_E S1 Y (l_ad 115 q adK adV) i1 9) := rfl
set_option maxRecDepth 100000 in
theorem l_i1_10 (Y : z_Y) (q adK adV : Nat → Nat) : (w_PD Y q)[10]? = some (l_ad 115 q adK adV 10, z_E S1 Y (l_ad 115 q adK adV) i1 10) := rfl
set_option maxRecDepth 100000 in
theorem l_i1_11 (Y : z_Y) (q adK adV : Nat → Nat) : (w_PD Y q)[11]? = some (l_ad 115 q adK adV 11, z_E S1 Y (l_ad 115 q adK adV) i1 11) := rfl
set_option maxRecDepth 100000 in
theorem l_i1_12 (Y : z_Y) (q adK adV : Nat → Nat) : (w_PD Y q)[12]? = some (l_ad 115 q adK adV 12, z_E S1 Y (l_ad 115 q adK adV) i1 12) := rfl
set_option maxRecDepth 100000 in
theorem l_i1_13 (Y : z_Y) (q adK adV : Nat → Nat) : (w_PD Y q)[13]? = some (l_ad 115 q adK adV 13, z_E S1 Y (l_ad 115 q adK adV) i1 13) := rfl
set_option maxRecDepth 100000 in
theorem l_i1_14 (Y : z_Y) (q adK adV : Nat → Nat) : (w_PD Y q)[14]? = some (l_ad 115 q adK adV 14, z_E S1 Y (l_ad 115 q adK adV) i1 14) := rfl
set_option maxRecDepth 100000 in
theorem l_i1_15 (Y : z_Y) (q adK adV : Nat → Nat) : (w_PD Y q)[15]? = some (l_ad 115 q adK adV 15, z_E S1 Y (l_ad 115 q adK adV) i1 15) := rfl
set_option maxRecDepth 100000 in
theorem l_i1_16 (Y : z_Y) (q adK adV : Nat → Nat) : (w_PD Y q)[16]? = some (l_ad 115 q adK adV 16, z_E S1 Y (l_ad 115 q adK adV) i1 16) := rfl
set_option maxRecDepth 100000 in
theorem l_i1_17 (Y : z_Y) (q adK adV : Nat → Nat) : (w_PD Y q)[17]? = some (l_ad 115 q adK adV 17, z_E S1 Y (l_ad 115 q adK adV) i1 17) := rfl
set_option maxRecDepth 100000 in
theorem l_i1_18 (Y : z_Y) (q adK adV : Nat → Nat) : (w_PD Y q)[18]? = some (l_ad 115 q adK adV 18, z_E S1 Y (l_ad 115 q adK adV) i1 18) := rfl
set_option maxRecDepth 100000 in
theorem l_i1_19 (Y : z_Y) (q adK adV : Nat → Nat) : (w_PD Y q)[19]? = some (l_ad 115 q adK adV 19, z_E S1 Y (l_ad 115 q adK adV) i1 19) := rfl
set_option maxRecDepth 100000 in
theorem l_i1_20 (Y : z_Y) (q adK adV : Nat → Nat) : (w_PD Y q)[20]? = some (l_ad 115 q adK adV 20, z_E S1 Y (l_ad 115 q adK adV) i1 20) := rfl
set_option maxRecDepth 100000 in
theorem l_i1_21 (Y : z_Y) (q adK adV : Nat → Nat) : (w_PD Y q)[21]? = some (l_ad 115 q adK adV 21, z_E S1 Y (l_ad 115 q adK adV) i1 21) := rfl
set_option maxRecDepth 100000 in
theorem l_i1_22 (Y : z_Y) (q adK adV : Nat → Nat) : (w_PD Y q)[22]? = some (l_ad 115 q adK adV 22, z_E S1 Y (l_ad 115 q adK adV) i1 22) := rfl
set_option maxRecDepth 100000 in
theorem l_i1_23 (Y : z_Y) (q adK adV : Nat → Nat) : (w_PD Y q)[23]? = some (l_ad 115 q adK adV 23, z_E S1 Y (l_ad 115 q adK adV) i1 23) := rfl
set_option maxRecDepth 100000 in
theorem l_i1_24 (Y : z_Y) (q adK adV : Nat → Nat) : (w_PD Y q)[24]? = some (l_ad 115 q adK adV 24, z_E S1 Y (l_ad 115 q adK adV) i1 24) := rfl
set_option maxRecDepth 100000 in
theorem l_i1_25 (Y : z_Y) (q adK adV : Nat → Nat) : (w_PD Y q)[25]? = some (l_ad 115 q adK adV 25, z_E S1 Y (l_ad 115 q adK adV) i1 25) := rfl
set_option maxRecDepth 100000 in
theorem l_i1_26 (Y : z_Y) (q adK adV : Nat → Nat) : (w_PD Y q)[26]? = some (l_ad 115 q adK adV 26, z_E S1 Y (l_ad 115 q adK adV) i1 26) := rfl
set_option maxRecDepth 100000 in
theorem l_i1_27 (Y : z_Y) (q adK adV : Nat → Nat) : (w_PD Y q)[27]? = some (l_ad 115 q adK adV 27, z_E S1 Y (l_ad 115 q adK adV) i1 27) := rfl
set_option maxRecDepth 100000 in
theorem l_i1_28 (Y : z_Y) (q adK adV : Nat → Nat) : (w_PD Y q)[28]? = some (l_ad 115 q adK adV 28, z_E S1 Y (l_ad 115 q adK adV) i1 28) := rfl
set_option maxRecDepth 100000 in
theorem l_i1_29 (Y : z_Y) (q adK adV : Nat → Nat) : (w_PD Y q)[29]? = some (l_ad 115 q adK adV 29, z_E S1 Y (l_ad 115 q adK adV) i1 29) := rfl
set_option maxRecDepth 100000 in
theorem l_i1_30 (Y : z_Y) (q adK adV : Nat → Nat) : (w_PD Y q)[30]? = some (l_ad 115 q adK adV 30, z_E S1 Y (l_ad 115 q adK adV) i1 30) := rfl
set_option maxRecDepth 100000 in
theorem l_i1_31 (Y : z_Y) (q adK adV : Nat → Nat) : (w_PD Y q)[31]? = some (l_ad 115 q adK adV 31, z_E S1 Y (l_ad 115 q adK adV) i1 31) := rfl
set_option maxRecDepth 100000 in
theorem l_i1_32 (Y : z_Y) (q adK adV : Nat → Nat) : (w_PD Y q)[32]? = some (l_ad 115 q adK adV 32, z_E S1 Y (l_ad 115 q adK adV) i1 32) := rfl
set_option maxRecDepth 100000 in
theorem l_i1_33 (Y : z_Y) (q adK adV : Nat → Nat) : (w_PD Y q)[33]? = some (l_ad 115 q adK adV 33, z_E S1 Y (l_ad 115 q adK adV) i1 33) := rfl
set_option maxRecDepth 100000 in
theorem l_i1_34 (Y : z_Y) (q adK adV : Nat → Nat) : (w_PD Y q)[34]? = some (l_ad 115 q adK adV 34, z_E S1 Y (l_ad 115 q adK adV) i1 34) := rfl
set_option maxRecDepth 100000 in
theorem l_i1_35 (Y : z_Y) (q adK adV : Nat → Nat) : (w_PD Y q)[35]? = some (l_ad 115 q adK adV 35, z_E S1 Y (l_ad 115 q adK adV) i1 35) := rfl
set_option maxRecDepth 100000 in
theorem l_i1_36 (Y : z_Y) (q adK adV : Nat → Nat) : (w_PD Y q)[36]? = some (l_ad 115 q adK adV 36, z_E S1 Y (l_ad 115 q adK adV) i1 36) := rfl
set_option maxRecDepth 100000 in
theorem l_i1_37 (Y : z_Y) (q adK adV : Nat → Nat) : (w_PD Y q)[37]? = some (l_ad 115 q adK adV 37, z_E S1 Y (l_ad 115 q adK adV) i1 37) := rfl
set_option maxRecDepth 100000 in
theorem l_i1_38 (Y : z_Y) (q adK adV : Nat → Nat) : (w_PD Y q)[38]? = some (l_ad 115 q adK adV 38, z_E S1 Y (l_ad 115 q adK adV) i1 38) := rfl
set_option maxRecDepth 100000 in
theorem l_i1_39 (Y : z_Y) (q adK adV : Nat → Nat) : (w_PD Y q)[39]? = some (l_ad 115 q adK adV 39, z_E S1 Y (l_ad 115 q adK adV) i1 39) := rfl
set_option maxRecDepth 100000 in
theorem l_i1_40 (Y : z_Y) (q adK adV : Nat → Nat) : (w_PD Y q)[40]? = some (l_ad 115 q adK adV 40, z_E S1 Y (l_ad 115 q adK adV) i1 40) := rfl
set_option maxRecDepth 100000 in
theorem l_i1_41 (Y : z_Y) (q adK adV : Nat → Nat) : (w_PD Y q)[41]? = some (l_ad 115 q adK adV 41, z_E S1 Y (l_ad 115 q adK adV) i1 41) := rfl
set_option maxRecDepth 100000 in
theorem l_i1_42 (Y : z_Y) (q adK adV : Nat → Nat) : (w_PD Y q)[42]? = some (l_ad 115 q adK adV 42, z_E S1 Y (l_ad 115 q adK adV) i1 42) := rfl
set_option maxRecDepth 100000 in
theorem l_i1_43 (Y : z_Y) (q adK adV : Nat → Nat) : (w_PD Y q)[43]? = some (l_ad 115 q adK adV 43, z_E S1 Y (l_ad 115 q adK adV) i1 43) := rfl
set_option maxRecDepth 100000 in
theorem l_i1_44 (Y : z_Y) (q adK adV : Nat → Nat) : (w_PD Y q)[44]? = some (l_ad 115 q adK adV 44, z_E S1 Y (l_ad 115 q adK adV) i1 44) := rfl
set_option maxRecDepth 100000 in
theorem l_i1_45 (Y : z_Y) (q adK adV : Nat → Nat) : (w_PD Y q)[45]? = some (l_ad 115 q adK adV 45, z_E S1 Y (l_ad 115 q adK adV) i1 45) := rfl
set_option maxRecDepth 100000 in
theorem l_i1_46 (Y : z_Y) (q adK adV : Nat → Nat) : (w_PD Y q)[46]? = some (l_ad 115 q adK adV 46, z_E S1 Y (l_ad 115 q adK adV) i1 46) := rfl
set_option maxRecDepth 100000 in
theorem l_i1_47 (Y : z_Y) (q adK adV : Nat → Nat) : (w_PD Y q)[47]? = some (l_ad 115 q adK adV 47, z_E S1 Y (l_ad 115 q adK adV) i1 47) := rfl
set_option maxRecDepth 100000 in
theorem l_i1_48 (Y : z_Y) (q adK adV : Nat → Nat) : (w_PD Y q)[48]? = some (l_ad 115 q adK adV 48, z_E S1 Y (l_ad 115 q adK adV) i1 48) := rfl
set_option maxRecDepth 100000 in
theorem l_i1_49 (Y : z_Y) (q adK adV : Nat → Nat) : (w_PD Y q)[49]? = some (l_ad 115 q adK adV 49, z_E S1 Y (l_ad 115 q adK adV) i1 49) := rfl
set_option maxRecDepth 100000 in
theorem l_i1_50 (Y : z_Y) (q adK adV : Nat → Nat) : (w_PD Y q)[50]? = some (l_ad 115 q adK adV 50, z_E S1 Y (l_ad 115 q adK adV) i1 50) := rfl
set_option maxRecDepth 100000 in
theorem l_i1_51 (Y : z_Y) (q adK adV : Nat → Nat) : (w_PD Y q)[51]? = some (l_ad 115 q adK adV 51, z_E S1 Y (l_ad 115 q adK adV) i1 51) := rfl
set_option maxRecDepth 100000 in
theorem l_i1_52 (Y : z_Y) (q adK adV : Nat → Nat) : (w_PD Y q)[52]? = some (l_ad 115 q adK adV 52, z_E S1 Y (l_ad 115 q adK adV) i1 52) := rfl
set_option maxRecDepth 100000 in
theorem l_i1_53 (Y : z_Y) (q adK adV : Nat → Nat) : (w_PD Y q)[53]? = some (l_ad 115 q adK adV 53, z_E S1 Y (l_ad 115 q adK adV) i1 53) := rfl
set_option maxRecDepth 100000 in
theorem l_i1_54 (Y : z_Y) (q adK adV : Nat → Nat) : (w_PD Y q)[54]? = some (l_ad 115 q adK adV 54, z_E S1 Y (l_ad 115 q adK adV) i1 54) := rfl
set_option maxRecDepth 100000 in
theorem l_i1_55 (Y : z_Y) (q adK adV : Nat → Nat) : (w_PD Y q)[55]? = some (l_ad 115 q adK adV 55, z_E S1 Y (l_ad 115 q adK adV) i1 55) := rfl
set_option maxRecDepth 100000 in
theorem l_i1_56 (Y : z_Y) (q adK adV : Nat → Nat) : (w_PD Y q)[56]? = some (l_ad 115 q adK adV 56, z_E S1 Y (l_ad 115 q adK adV) i1 56) := rfl
set_option maxRecDepth 100000 in
theorem l_i1_57 (Y : z_Y) (q adK adV : Nat → Nat) : (w_PD Y q)[57]? = some (l_ad 115 q adK adV 57, z_E S1 Y (l_ad 115 q adK adV) i1 57) := rfl
set_option maxRecDepth 100000 in
theorem l_i1_58 (Y : z_Y) (q adK adV : Nat → Nat) : (w_PD Y q)[58]? = some (l_ad 115 q adK adV 58, z_E S1 Y (l_ad 115 q adK adV) i1 58) := rfl
set_option maxRecDepth 100000 in
theorem l_i1_59 (Y : z_Y) (q adK adV : Nat → Nat) : (w_PD Y q)[59]? = some (l_ad 115 q adK adV 59, z_E S1 Y (l_ad 115 q adK adV) i1 59) := by
  rw [z_E_ref rfl, ← l_ring (l_ad 115 q adK adV) (q 60) (q 66) (q 72) (q 78) (q 84) (q 90) rfl rfl rfl rfl rfl rfl]
  rfl
set_option maxRecDepth 100000 in
theorem l_i1_60 (Y : z_Y) (q adK adV : Nat → Nat) : (w_PD Y q)[60]? = some (l_ad 115 q adK adV 60, z_E S1 Y (l_ad 115 q adK adV) i1 60) := rfl
set_option maxRecDepth 100000 in
theorem l_i1_61 (Y : z_Y) (q adK adV : Nat → Nat) : (w_PD Y q)[61]? = some (l_ad 115 q adK adV 61, z_E S1 Y (l_ad 115 q adK adV) i1 61) := rfl
set_option maxRecDepth 100000 in
theorem l_i1_62 (Y : z_Y) (q adK adV : Nat → Nat) : (w_PD Y q)[62]? = some (l_ad 115 q adK adV 62, z_E S1 Y (l_ad 115 q adK adV) i1 62) := rfl
set_option maxRecDepth 100000 in
theorem l_i1_63 (Y : z_Y) (q adK adV : Nat → Nat) : (w_PD Y q)[63]? = some (l_ad 115 q adK adV 63, z_E S1 Y (l_ad 115 q adK adV) i1 63) := rfl
set_option maxRecDepth 100000 in
theorem l_i1_64 (Y : z_Y) (q adK adV : Nat → Nat) : (w_PD Y q)[64]? = some (l_ad 115 q adK adV 64, z_E S1 Y (l_ad 115 q adK adV) i1 64) := rfl
set_option maxRecDepth 100000 in
theorem l_i1_65 (Y : z_Y) (q adK adV : Nat → Nat) : (w_PD Y q)[65]? = some (l_ad 115 q adK adV 65, z_E S1 Y (l_ad 115 q adK adV) i1 65) := rfl
set_option maxRecDepth 100000 in
theorem l_i1_66 (Y : z_Y) (q adK adV : Nat → Nat) : (w_PD Y q)[66]? = some (l_ad 115 q adK adV 66, z_E S1 Y (l_ad 115 q adK adV) i1 66) := rfl
set_option maxRecDepth 100000 in
theorem l_i1_67 (Y : z_Y) (q adK adV : Nat → Nat) : (w_PD Y q)[67]? = some (l_ad 115 q adK adV 67, z_E S1 Y (l_ad 115 q adK adV) i1 67) := rfl
set_option maxRecDepth 100000 in
theorem l_i1_68 (Y : z_Y) (q adK adV : Nat → Nat) : (w_PD Y q)[68]? = some (l_ad 115 q adK adV 68, z_E S1 Y (l_ad 115 q adK adV) i1 68) := rfl
set_option maxRecDepth 100000 in
theorem l_i1_69 (Y : z_Y) (q adK adV : Nat → Nat) : (w_PD Y q)[69]? = some (l_ad 115 q adK adV 69, z_E S1 Y (l_ad 115 q adK adV) i1 69) := rfl
set_option maxRecDepth 100000 in
theorem l_i1_70 (Y : z_Y) (q adK adV : Nat → Nat) : (w_PD Y q)[70]? = some (l_ad 115 q adK adV 70, z_E S1 Y (l_ad 115 q adK adV) i1 70) := rfl
set_option maxRecDepth 100000 in
theorem l_i1_71 (Y : z_Y) (q adK adV : Nat → Nat) : (w_PD Y q)[71]? = some (l_ad 115 q adK adV 71, z_E S1 Y (l_ad 115 q adK adV) i1 71) := rfl
set_option maxRecDepth 100000 in
theorem l_i1_72 (Y : z_Y) (q adK adV : Nat → Nat) : (w_PD Y q)[72]? = some (l_ad 115 q adK adV 72, z_E S1 Y (l_ad 115 q adK adV) i1 72) := rfl
set_option maxRecDepth 100000 in
theorem l_i1_73 (Y : z_Y) (q adK adV : Nat → Nat) : (w_PD Y q)[73]? = some (l_ad 115 q adK adV 73, z_E S1 Y (l_ad 115 q adK adV) i1 73) := rfl
set_option maxRecDepth 100000 in
theorem l_i1_74 (Y : z_Y) (q adK adV : Nat → Nat) : (w_PD Y q)[74]? = some (l_ad 115 q adK adV 74, z_E S1 Y (l_ad 115 q adK adV) i1 74) := rfl
set_option maxRecDepth 100000 in
theorem l_i1_75 (Y : z_Y) (q adK adV : Nat → Nat) : (w_PD Y q)[75]? = some (l_ad 115 q adK adV 75, z_E S1 Y (l_ad 115 q adK adV) i1 75) := rfl
set_option maxRecDepth 100000 in
theorem l_i1_76 (Y : z_Y) (q adK adV : Nat → Nat) : (w_PD Y q)[76]? = some (l_ad 115 q adK adV 76, z_E S1 Y (l_ad 115 q adK adV) i1 76) := rfl
set_option maxRecDepth 100000 in
theorem l_i1_77 (Y : z_Y) (q adK adV : Nat → Nat) : (w_PD Y q)[77]? = some (l_ad 115 q adK adV 77, z_E S1 Y (l_ad 115 q adK adV) i1 77) := rfl
set_option maxRecDepth 100000 in
theorem l_i1_78 (Y : z_Y) (q adK adV : Nat → Nat) : (w_PD Y q)[78]? = some (l_ad 115 q adK adV 78, z_E S1 Y (l_ad 115 q adK adV) i1 78) := rfl
set_option maxRecDepth 100000 in
theorem l_i1_79 (Y : z_Y) (q adK adV : Nat → Nat) : (w_PD Y q)[79]? = some (l_ad 115 q adK adV 79, z_E S1 Y (l_ad 115 q adK adV) i1 79) := rfl
set_option maxRecDepth 100000 in
theorem l_i1_80 (Y : z_Y) (q adK adV : Nat → Nat) : (w_PD Y q)[80]? = some (l_ad 115 q adK adV 80, z_E S1 Y (l_ad 115 q adK adV) i1 80) := rfl
set_option maxRecDepth 100000 in
theorem l_i1_81 (Y : z_Y) (q adK adV : Nat → Nat) : (w_PD Y q)[81]? = some (l_ad 115 q adK adV 81, z_E S1 Y (l_ad 115 q adK adV) i1 81) := rfl
set_option maxRecDepth 100000 in
theorem l_i1_82 (Y : z_Y) (q adK adV : Nat → Nat) : (w_PD Y q)[82]? = some (l_ad 115 q adK adV 82, z_E S1 Y (l_ad 115 q adK adV) i1 82) := rfl
set_option maxRecDepth 100000 in
theorem l_i1_83 (Y : z_Y) (q adK adV : Nat → Nat) : (w_PD Y q)[83]? = some (l_ad 115 q adK adV 83, z_E S1 Y (l_ad 115 q adK adV) i1 83) := rfl
set_option maxRecDepth 100000 in
theorem l_i1_84 (Y : z_Y) (q adK adV : Nat → Nat) : (w_PD Y q)[84]? = some (l_ad 115 q adK adV 84, z_E S1 Y (l_ad 115 q adK adV) i1 84) := rfl
set_option maxRecDepth 100000 in
theorem l_i1_85 (Y : z_Y) (q adK adV : Nat → Nat) : (w_PD Y q)[85]? = some (l_ad 115 q adK adV 85, z_E S1 Y (l_ad 115 q adK adV) i1 85) := rfl
set_option maxRecDepth 100000 in
theorem l_i1_86 (Y : z_Y) (q adK adV : Nat → Nat) : (w_PD Y q)[86]? = some (l_ad 115 q adK adV 86, z_E S1 Y (l_ad 115 q adK adV) i1 86) := rfl
set_option maxRecDepth 100000 in
theorem l_i1_87 (Y : z_Y) (q adK adV : Nat → Nat) : (w_PD Y q)[87]? = some (l_ad 115 q adK adV 87, z_E S1 Y (l_ad 115 q adK adV) i1 87) := rfl
set_option maxRecDepth 100000 in
theorem l_i1_88 (Y : z_Y) (q adK adV : Nat → Nat) : (w_PD Y q)[88]? = some (l_ad 115 q adK adV 88, z_E S1 Y (l_ad 115 q adK adV) i1 88) := rfl
set_option maxRecDepth 100000 in
theorem l_i1_89 (Y : z_Y) (q adK adV : Nat → Nat) : (w_PD Y q)[89]? = some (l_ad 115 q adK adV 89, z_E S1 Y (l_ad 115 q adK adV) i1 89) := rfl
set_option maxRecDepth 100000 in
theorem l_i1_90 (Y : z_Y) (q adK adV : Nat → Nat) : (w_PD Y q)[90]? = some (l_ad 115 q adK adV 90, z_E S1 Y (l_ad 115 q adK adV) i1 90) := rfl
set_option maxRecDepth 100000 in
theorem l_i1_91 (Y : z_Y) (q adK adV : Nat → Nat) : (w_PD Y q)[91]? = some (l_ad 115 q adK adV 91, z_E S1 Y (l_ad 115 q adK adV) i1 91) := rfl
set_option maxRecDepth 100000 in
theorem l_i1_92 (Y : z_Y) (q adK adV : Nat → Nat) : (w_PD Y q)[92]? = some (l_ad 115 q adK adV 92, z_E S1 Y (l_ad 115 q adK adV) i1 92) := rfl
set_option maxRecDepth 100000 in
theorem l_i1_93 (Y : z_Y) (q adK adV : Nat → Nat) : (w_PD Y q)[93]? = some (l_ad 115 q adK adV 93, z_E S1 Y (l_ad 115 q adK adV) i1 93) := rfl
set_option maxRecDepth 100000 in
theorem l_i1_94 (Y : z_Y) (q adK adV : Nat → Nat) : (w_PD Y q)[94]? = some (l_ad 115 q adK adV 94, z_E S1 Y (l_ad 115 q adK adV) i1 94) := rfl
set_option maxRecDepth 100000 in
theorem l_i1_95 (Y : z_Y) (q adK adV : Nat → Nat) : (w_PD Y q)[95]? = some (l_ad 115 q adK adV 95, z_E S1 Y (l_ad 115 q adK adV) i1 95) := rfl
set_option maxRecDepth 100000 in
theorem l_i1_96 (Y : z_Y) (q adK adV : Nat → Nat) : (w_PD Y q)[96]? = some (l_ad 115 q adK adV 96, z_E S1 Y (l_ad 115 q adK adV) i1 96) := rfl
set_option maxRecDepth 100000 in
theorem l_i1_97 (Y : z_Y) (q adK adV : Nat → Nat) : (w_PD Y q)[97]? = some (l_ad 115 q adK adV 97, z_E S1 Y (l_ad 115 q adK adV) i1 97) := rfl
set_option maxRecDepth 100000 in
theorem l_i1_98 (Y : z_Y) (q adK adV : Nat → Nat) : (w_PD Y q)[98]? = some (l_ad 115 q adK adV 98, z_E S1 Y (l_ad 115 q adK adV) i1 98) := rfl
set_option maxRecDepth 100000 in
theorem l_i1_99 (Y : z_Y) (q adK adV : Nat → Nat) : (w_PD Y q)[99]? = some (l_ad 115 q adK adV 99, z_E S1 Y (l_ad 115 q adK adV) i1 99) := rfl
set_option maxRecDepth 100000 in
theorem l_i1_100 (Y : z_Y) (q adK adV : Nat → Nat) : (w_PD Y q)[100]? = some (l_ad 115 q adK adV 100, z_E S1 Y (l_ad 115 q adK adV) i1 100) := rfl
set_option maxRecDepth 100000 in
theorem l_i1_101 (Y : z_Y) (q adK adV : Nat → Nat) : (w_PD Y q)[101]? = some (l_ad 115 q adK adV 101, z_E S1 Y (l_ad 115 q adK adV) i1 101) := rfl
set_option maxRecDepth 100000 in
theorem l_i1_102 (Y : z_Y) (q adK adV : Nat → Nat) : (w_PD Y q)[102]? = some (l_ad 115 q adK adV 102, z_E S1 Y (l_ad 115 q adK adV) i1 102) := rfl
set_option maxRecDepth 100000 in
theorem l_i1_103 (Y : z_Y) (q adK adV : Nat → Nat) : (w_PD Y q)[103]? = some (l_ad 115 q adK adV 103, z_E S1 Y (l_ad 115 q adK adV) i1 103) := rfl
set_option maxRecDepth 100000 in
theorem l_i1_104 (Y : z_Y) (q adK adV : Nat → Nat) : (w_PD Y q)[104]? = some (l_ad 115 q adK adV 104, z_E S1 Y (l_ad 115 q adK adV) i1 104) := rfl
set_option maxRecDepth 100000 in
theorem l_i1_105 (Y : z_Y) (q adK adV : Nat → Nat) : (w_PD Y q)[105]? = some (l_ad 115 q adK adV 105, z_E S1 Y (l_ad 115 q adK adV) i1 105) := rfl
set_option maxRecDepth 100000 in
theorem l_i1_106 (Y : z_Y) (q adK adV : Nat → Nat) : (w_PD Y q)[106]? = some (l_ad 115 q adK adV 106, z_E S1 Y (l_ad 115 q adK adV) i1 106) := rfl
set_option maxRecDepth 100000 in
theorem l_i1_107 (Y : z_Y) (q adK adV : Nat → Nat) : (w_PD Y q)[107]? = some (l_ad 115 q adK adV 107, z_E S1 Y (l_ad 115 q adK adV) i1 107) := rfl
set_option maxRecDepth 100000 in
theorem l_i1_108 (Y : z_Y) (q adK adV : Nat → Nat) : (w_PD Y q)[108]? = some (l_ad 115 q adK adV 108, z_E S1 Y (l_ad 115 q adK adV) i1 108) := rfl
set_option maxRecDepth 100000 in
theorem l_i1_109 (Y : z_Y) (q adK adV : Nat → Nat) : (w_PD Y q)[109]? = some (l_ad 115 q adK adV 109, z_E S1 Y (l_ad 115 q adK adV) i1 109) := rfl
set_option maxRecDepth 100000 in
theorem l_i1_110 (Y : z_Y) (q adK adV : Nat → Nat) : (w_PD Y q)[110]? = some (l_ad 115 q adK adV 110, z_E S1 Y (l_ad 115 q adK adV) i1 110) := rfl
set_option maxRecDepth 100000 in
theorem l_i1_111 (Y : z_Y) (q adK adV : Nat → Nat) : (w_PD Y q)[111]? = some (l_ad 115 q adK adV 111, z_E S1 Y (l_ad 115 q adK adV) i1 111) := rfl
set_option maxRecDepth 100000 in
theorem l_i1_112 (Y : z_Y) (q adK adV : Nat → Nat) : (w_PD Y q)[112]? = some (l_ad 115 q adK adV 112, z_E S1 Y (l_ad 115 q adK adV) i1 112) := rfl
set_option maxRecDepth 100000 in
theorem l_i1_113 (Y : z_Y) (q adK adV : Nat → Nat) : (w_PD Y q)[113]? = some (l_ad 115 q adK adV 113, z_E S1 Y (l_ad 115 q adK adV) i1 113) := rfl
set_option maxRecDepth 100000 in
theorem l_i1_114 (Y : z_Y) (q adK adV : Nat → Nat) : (w_PD Y q)[114]? = some (l_ad 115 q adK adV 114, z_E S1 Y (l_ad 115 q adK adV) i1 114) := rfl
theorem l_i1_at (Y : z_Y) (q adK adV : Nat → Nat) (c : Nat) (h : c < 115) : (w_PD Y q)[c]? = some (l_ad 115 q adK adV c, z_E S1 Y (l_ad 115 q adK adV) i1 c) := by
  match c, h with
  | 0, _ => exact l_i1_0 Y q adK adV
  | 1, _ => exact l_i1_1 Y q adK adV
  | 2, _ => exact l_i1_2 Y q adK adV
  | 3, _ => exact l_i1_3 Y q adK adV
  | 4, _ => exact l_i1_4 Y q adK adV
  | 5, _ => exact l_i1_5 Y q adK adV
  | 6, _ => exact l_i1_6 Y q adK adV
  | 7, _ => exact l_i1_7 Y q adK adV
  | 8, _ => exact l_i1_8 Y q adK adV
  | 9, _ => exact l_i1_9 Y q adK adV
  | 10, _ => exact l_i1_10 Y q adK adV
  | 11, _ => exact l_i1_11 Y q adK adV
  | 12, _ => exact l_i1_12 Y q adK adV
  | 13, _ => exact l_i1_13 Y q adK adV
  | 14, _ => exact l_i1_14 Y q adK adV
  | 15, _ => exact l_i1_15 Y q adK adV
  | 16, _ => exact l_i1_16 Y q adK adV
  | 17, _ => exact l_i1_17 Y q adK adV
  | 18, _ => exact l_i1_18 Y q adK adV
  | 19, _ => exact l_i1_19 Y q adK adV
  | 20, _ => exact l_i1_20 Y q adK adV
  | 21, _ => exact l_i1_21 Y q adK adV
  | 22, _ => exact l_i1_22 Y q adK adV
  | 23, _ => exact l_i1_23 Y q adK adV
  | 24, _ => exact l_i1_24 Y q adK adV
  | 25, _ => exact l_i1_25 Y q adK adV
  | 26, _ => exact l_i1_26 Y q adK adV
  | 27, _ => exact l_i1_27 Y q adK adV
  | 28, _ => exact l_i1_28 Y q adK adV
  | 29, _ => exact l_i1_29 Y q adK adV
  | 30, _ => exact l_i1_30 Y q adK adV
  | 31, _ => exact l_i1_31 Y q adK adV
  | 32, _ => exact l_i1_32 Y q adK adV
  | 33, _ => exact l_i1_33 Y q adK adV
  | 34, _ => exact l_i1_34 Y q adK adV
  | 35, _ => exact l_i1_35 Y q adK adV
  | 36, _ => exact l_i1_36 Y q adK adV
  | 37, _ => exact l_i1_37 Y q adK adV
  | 38, _ => exact l_i1_38 Y q adK adV
  | 39, _ => exact l_i1_39 Y q adK adV
  | 40, _ => exact l_i1_40 Y q adK adV
  | 41, _ => exact l_i1_41 Y q adK adV
  | 42, _ => exact l_i1_42 Y q adK adV
  | 43, _ => exact l_i1_43 Y q adK adV
  | 44, _ => exact l_i1_44 Y q adK adV
  | 45, _ => exact l_i1_45 Y q adK adV
  | 46, _ => exact l_i1_46 Y q adK adV
  | 47, _ => exact l_i1_47 Y q adK adV
  | 48, _ => exact l_i1_48 Y q adK adV
  | 49, _ => exact l_i1_49 Y q adK adV
  | 50, _ => exact l_i1_50 Y q adK adV
  | 51, _ => exact l_i1_51 Y q adK adV
  | 52, _ => exact l_i1_52 Y q adK adV
  | 53, _ => exact l_i1_53 Y q adK adV
  | 54, _ => exact l_i1_54 Y q adK adV
  | 55, _ => exact l_i1_55 Y q adK adV
  | 56, _ => exact l_i1_56 Y q adK adV
  | 57, _ => exact l_i1_57 Y q adK adV
  | 58, _ => exact l_i1_58 Y q adK adV
  | 59, _ => exact l_i1_59 Y q adK adV
  | 60, _ => exact l_i1_60 Y q adK adV
  | 61, _ => exact l_i1_61 Y q adK adV
  | 62, _ => exact l_i1_62 Y q adK adV
  | 63, _ => exact l_i1_63 Y q adK adV
  | 64, _ => exact l_i1_64 Y q adK adV
  | 65, _ => exact l_i1_65 Y q adK adV
  | 66, _ => exact l_i1_66 Y q adK adV
  | 67, _ => exact l_i1_67 Y q adK adV
  | 68, _ => exact l_i1_68 Y q adK adV
  | 69, _ => exact l_i1_69 Y q adK adV
  | 70, _ => exact l_i1_70 Y q adK adV
  | 71, _ => exact l_i1_71 Y q adK adV
  | 72, _ => exact l_i1_72 Y q adK adV
  | 73, _ => exact l_i1_73 Y q adK adV
  | 74, _ => exact l_i1_74 Y q adK adV
  | 75, _ => exact l_i1_75 Y q adK adV
  | 76, _ => exact l_i1_76 Y q adK adV
  | 77, _ => exact l_i1_77 Y q adK adV
  | 78, _ => exact l_i1_78 Y q adK adV
  | 79, _ => exact l_i1_79 Y q adK adV
  | 80, _ => exact l_i1_80 Y q adK adV
  | 81, _ => exact l_i1_81 Y q adK adV
  | 82, _ => exact l_i1_82 Y q adK adV
  | 83, _ => exact l_i1_83 Y q adK adV
  | 84, _ => exact l_i1_84 Y q adK adV
  | 85, _ => exact l_i1_85 Y q adK adV
  | 86, _ => exact l_i1_86 Y q adK adV
  | 87, _ => exact l_i1_87 Y q adK adV
  | 88, _ => exact l_i1_88 Y q adK adV
  | 89, _ => exact l_i1_89 Y q adK adV
  | 90, _ => exact l_i1_90 Y q adK adV
  | 91, _ => exact l_i1_91 Y q adK adV
  | 92, _ => exact l_i1_92 Y q adK adV
  | 93, _ => exact l_i1_93 Y q adK adV
  | 94, _ => exact l_i1_94 Y q adK adV
  | 95, _ => exact l_i1_95 Y q adK adV
  | 96, _ => exact l_i1_96 Y q adK adV
  | 97, _ => exact l_i1_97 Y q adK adV
  | 98, _ => exact l_i1_98 Y q adK adV
  | 99, _ => exact l_i1_99 Y q adK adV
  | 100, _ => exact l_i1_100 Y q adK adV
  | 101, _ => exact l_i1_101 Y q adK adV
  | 102, _ => exact l_i1_102 Y q adK adV
  | 103, _ => exact l_i1_103 Y q adK adV
  | 104, _ => exact l_i1_104 Y q adK adV
  | 105, _ => exact l_i1_105 Y q adK adV
  | 106, _ => exact l_i1_106 Y q adK adV
  | 107, _ => exact l_i1_107 Y q adK adV
  | 108, _ => exact l_i1_108 Y q adK adV
  | 109, _ => exact l_i1_109 Y q adK adV
  | 110, _ => exact l_i1_110 Y q adK adV
  | 111, _ => exact l_i1_111 Y q adK adV
  | 112, _ => exact l_i1_112 Y q adK adV
  | 113, _ => exact l_i1_113 Y q adK adV
  | 114, _ => exact l_i1_114 Y q adK adV
  | c + 115, h => exact absurd h (by omega)
theorem l_i1_eq (Y : z_Y) (q adK adV : Nat → Nat) : w_PD Y q = z_wl S1 Y (l_ad 115 q adK adV) i1 := by
  apply List.ext_getElem?
  intro c
  rcases Nat.lt_or_ge c 115 with h | h
  · rw [l_i1_at Y q adK adV c h, z_wl_at (S := S1) h]
  · have e9 : (z_wl S1 Y (l_ad 115 q adK adV) i1).length = 115 := by simp [z_wl]; rfl
    rw [List.getElem?_eq_none (show (w_PD Y q).length ≤ c from h), List.getElem?_eq_none (by omega)]
set_option maxRecDepth 100000 in
theorem l_i2_0 (Y : z_Y) (q adK adV : Nat → Nat) : (w_Model Y q)[0]? = some (l_ad 34 q adK adV 0, z_E S2 Y (l_ad 34 q adK adV) i2 0) := rfl
set_option maxRecDepth 100000 in
theorem l_i2_1 (Y : z_Y) (q adK adV : Nat → Nat) : (w_Model Y q)[1]? = some (l_ad 34 q adK adV 1, z_E S2 Y (l_ad 34 q adK adV) i2 1) := rfl
set_option maxRecDepth 100000 in
theorem l_i2_2 (Y : z_Y) (q adK adV : Nat → Nat) : (w_Model Y q)[2]? = some (l_ad 34 q adK adV 2, z_E S2 Y (l_ad 34 q adK adV) i2 2) := rfl
set_option maxRecDepth 100000 in
theorem l_i2_3 (Y : z_Y) (q adK adV : Nat → Nat) : (w_Model Y q)[3]? = some (l_ad 34 q adK adV 3, z_E S2 Y (l_ad 34 q adK adV) i2 3) := rfl
set_option maxRecDepth 100000 in
theorem l_i2_4 (Y : z_Y) (q adK adV : Nat → Nat) : (w_Model Y q)[4]? = some (l_ad 34 q adK adV 4, z_E S2 Y (l_ad 34 q adK adV) i2 4) := rfl
set_option maxRecDepth 100000 in
theorem l_i2_5 (Y : z_Y) (q adK adV : Nat → Nat) : (w_Model Y q)[5]? = some (l_ad 34 q adK adV 5, z_E S2 Y (l_ad 34 q adK adV) i2 5) := rfl
set_option maxRecDepth 100000 in
theorem l_i2_6 (Y : z_Y) (q adK adV : Nat → Nat) : (w_Model Y q)[6]? = some (l_ad 34 q adK adV 6, z_E S2 Y (l_ad 34 q adK adV) i2 6) := rfl
set_option maxRecDepth 100000 in
theorem l_i2_7 (Y : z_Y) (q adK adV : Nat → Nat) : (w_Model Y q)[7]? = some (l_ad 34 q adK adV 7, z_E S2 Y (l_ad 34 q adK adV) i2 7) := rfl
set_option maxRecDepth 100000 in
theorem l_i2_8 (Y : z_Y) (q adK adV : Nat → Nat) : (w_Model Y q)[8]? = some (l_ad 34 q adK adV 8, z_E S2 Y (l_ad 34 q adK adV) i2 8) := rfl
set_option maxRecDepth 100000 in
theorem l_i2_9 (Y : z_Y) (q adK adV : Nat → Nat) : (w_Model Y q)[9]? = some (l_ad 34 q adK adV 9, z_E S2 Y (l_ad 34 q adK adV) i2 9) := rfl
set_option maxRecDepth 100000 in
theorem l_i2_10 (Y : z_Y) (q adK adV : Nat → Nat) : (w_Model Y q)[10]? = some (l_ad 34 q adK adV 10, z_E S2 Y (l_ad 34 q adK adV) i2 10) := rfl
set_option maxRecDepth 100000 in
theorem l_i2_11 (Y : z_Y) (q adK adV : Nat → Nat) : (w_Model Y q)[11]? = some (l_ad 34 q adK adV 11, z_E S2 Y (l_ad 34 q adK adV) i2 11) := rfl
set_option maxRecDepth 100000 in
theorem l_i2_12 (Y : z_Y) (q adK adV : Nat → Nat) : (w_Model Y q)[12]? = some (l_ad 34 q adK adV 12, z_E S2 Y (l_ad 34 q adK adV) i2 12) := rfl
set_option maxRecDepth 100000 in
theorem l_i2_13 (Y : z_Y) (q adK adV : Nat → Nat) : (w_Model Y q)[13]? = some (l_ad 34 q adK adV 13, z_E S2 Y (l_ad 34 q adK adV) i2 13) := rfl
set_option maxRecDepth 100000 in
theorem l_i2_14 (Y : z_Y) (q adK adV : Nat → Nat) : (w_Model Y q)[14]? = some (l_ad 34 q adK adV 14, z_E S2 Y (l_ad 34 q adK adV) i2 14) := rfl
set_option maxRecDepth 100000 in
theorem l_i2_15 (Y : z_Y) (q adK adV : Nat → Nat) : (w_Model Y q)[15]? = some (l_ad 34 q adK adV 15, z_E S2 Y (l_ad 34 q adK adV) i2 15) := rfl
set_option maxRecDepth 100000 in
theorem l_i2_16 (Y : z_Y) (q adK adV : Nat → Nat) : (w_Model Y q)[16]? = some (l_ad 34 q adK adV 16, z_E S2 Y (l_ad 34 q adK adV) i2 16) := rfl
set_option maxRecDepth 100000 in
theorem l_i2_17 (Y : z_Y) (q adK adV : Nat → Nat) : (w_Model Y q)[17]? = some (l_ad 34 q adK adV 17, z_E S2 Y (l_ad 34 q adK adV) i2 17) := rfl
set_option maxRecDepth 100000 in
theorem l_i2_18 (Y : z_Y) (q adK adV : Nat → Nat) : (w_Model Y q)[18]? = some (l_ad 34 q adK adV 18, z_E S2 Y (l_ad 34 q adK adV) i2 18) := rfl
set_option maxRecDepth 100000 in
theorem l_i2_19 (Y : z_Y) (q adK adV : Nat → Nat) : (w_Model Y q)[19]? = some (l_ad 34 q adK adV 19, z_E S2 Y (l_ad 34 q adK adV) i2 19) := rfl
set_option maxRecDepth 100000 in
theorem l_i2_20 (Y : z_Y) (q adK adV : Nat → Nat) : (w_Model Y q)[20]? = some (l_ad 34 q adK adV 20, z_E S2 Y (l_ad 34 q adK adV) i2 20) := rfl
set_option maxRecDepth 100000 in
theorem l_i2_21 (Y : z_Y) (q adK adV : Nat → Nat) : (w_Model Y q)[21]? = some (l_ad 34 q adK adV 21, z_E S2 Y (l_ad 34 q adK adV) i2 21) := rfl
set_option maxRecDepth 100000 in
theorem l_i2_22 (Y : z_Y) (q adK adV : Nat → Nat) : (w_Model Y q)[22]? = some (l_ad 34 q adK adV 22, z_E S2 Y (l_ad 34 q adK adV) i2 22) := rfl
set_option maxRecDepth 100000 in
theorem l_i2_23 (Y : z_Y) (q adK adV : Nat → Nat) : (w_Model Y q)[23]? = some (l_ad 34 q adK adV 23, z_E S2 Y (l_ad 34 q adK adV) i2 23) := rfl
set_option maxRecDepth 100000 in
theorem l_i2_24 (Y : z_Y) (q adK adV : Nat → Nat) : (w_Model Y q)[24]? = some (l_ad 34 q adK adV 24, z_E S2 Y (l_ad 34 q adK adV) i2 24) := rfl
set_option maxRecDepth 100000 in
theorem l_i2_25 (Y : z_Y) (q adK adV : Nat → Nat) : (w_Model Y q)[25]? = some (l_ad 34 q adK adV 25, z_E S2 Y (l_ad 34 q adK adV) i2 25) := rfl
set_option maxRecDepth 100000 in
theorem l_i2_26 (Y : z_Y) (q adK adV : Nat → Nat) : (w_Model Y q)[26]? = some (l_ad 34 q adK adV 26, z_E S2 Y (l_ad 34 q adK adV) i2 26) := rfl
set_option maxRecDepth 100000 in
theorem l_i2_27 (Y : z_Y) (q adK adV : Nat → Nat) : (w_Model Y q)[27]? = some (l_ad 34 q adK adV 27, z_E S2 Y (l_ad 34 q adK adV) i2 27) := rfl
set_option maxRecDepth 100000 in
theorem l_i2_28 (Y : z_Y) (q adK adV : Nat → Nat) : (w_Model Y q)[28]? = some (l_ad 34 q adK adV 28, z_E S2 Y (l_ad 34 q adK adV) i2 28) := rfl
set_option maxRecDepth 100000 in
theorem l_i2_29 (Y : z_Y) (q adK adV : Nat → Nat) : (w_Model Y q)[29]? = some (l_ad 34 q adK adV 29, z_E S2 Y (l_ad 34 q adK adV) i2 29) := rfl
set_option maxRecDepth 100000 in
theorem l_i2_30 (Y : z_Y) (q adK adV : Nat → Nat) : (w_Model Y q)[30]? = some (l_ad 34 q adK adV 30, z_E S2 Y (l_ad 34 q adK adV) i2 30) := rfl
set_option maxRecDepth 100000 in
theorem l_i2_31 (Y : z_Y) (q adK adV : Nat → Nat) : (w_Model Y q)[31]? = some (l_ad 34 q adK adV 31, z_E S2 Y (l_ad 34 q adK adV) i2 31) := rfl
set_option maxRecDepth 100000 in
theorem l_i2_32 (Y : z_Y) (q adK adV : Nat → Nat) : (w_Model Y q)[32]? = some (l_ad 34 q adK adV 32, z_E S2 Y (l_ad 34 q adK adV) i2 32) := rfl
set_option maxRecDepth 100000 in
theorem l_i2_33 (Y : z_Y) (q adK adV : Nat → Nat) : (w_Model Y q)[33]? = some (l_ad 34 q adK adV 33, z_E S2 Y (l_ad 34 q adK adV) i2 33) := rfl
theorem l_i2_at (Y : z_Y) (q adK adV : Nat → Nat) (c : Nat) (h : c < 34) : (w_Model Y q)[c]? = some (l_ad 34 q adK adV c, z_E S2 Y (l_ad 34 q adK adV) i2 c) := by
  match c, h with
  | 0, _ => exact l_i2_0 Y q adK adV
  | 1, _ => exact l_i2_1 Y q adK adV
  | 2, _ => exact l_i2_2 Y q adK adV
  | 3, _ => exact l_i2_3 Y q adK adV
  | 4, _ => exact l_i2_4 Y q adK adV
  | 5, _ => exact l_i2_5 Y q adK adV
  | 6, _ => exact l_i2_6 Y q adK adV
  | 7, _ => exact l_i2_7 Y q adK adV
  | 8, _ => exact l_i2_8 Y q adK adV
  | 9, _ => exact l_i2_9 Y q adK adV
  | 10, _ => exact l_i2_10 Y q adK adV
  | 11, _ => exact l_i2_11 Y q adK adV
  | 12, _ => exact l_i2_12 Y q adK adV
  | 13, _ => exact l_i2_13 Y q adK adV
  | 14, _ => exact l_i2_14 Y q adK adV
  | 15, _ => exact l_i2_15 Y q adK adV
  | 16, _ => exact l_i2_16 Y q adK adV
  | 17, _ => exact l_i2_17 Y q adK adV
  | 18, _ => exact l_i2_18 Y q adK adV
  | 19, _ => exact l_i2_19 Y q adK adV
  | 20, _ => exact l_i2_20 Y q adK adV
  | 21, _ => exact l_i2_21 Y q adK adV
  | 22, _ => exact l_i2_22 Y q adK adV
  | 23, _ => exact l_i2_23 Y q adK adV
  | 24, _ => exact l_i2_24 Y q adK adV
  | 25, _ => exact l_i2_25 Y q adK adV
  | 26, _ => exact l_i2_26 Y q adK adV
  | 27, _ => exact l_i2_27 Y q adK adV
  | 28, _ => exact l_i2_28 Y q adK adV
  | 29, _ => exact l_i2_29 Y q adK adV
  | 30, _ => exact l_i2_30 Y q adK adV
  | 31, _ => exact l_i2_31 Y q adK adV
  | 32, _ => exact l_i2_32 Y q adK adV
  | 33, _ => exact l_i2_33 Y q adK adV
  | c + 34, h => exact absurd h (by omega)
theorem l_i2_eq (Y : z_Y) (q adK adV : Nat → Nat) : w_Model Y q = z_wl S2 Y (l_ad 34 q adK adV) i2 := by
  apply List.ext_getElem?
  intro c
  rcases Nat.lt_or_ge c 34 with h | h
  · rw [l_i2_at Y q adK adV c h, z_wl_at (S := S2) h]
  · have e9 : (z_wl S2 Y (l_ad 34 q adK adV) i2).length = 34 := by simp [z_wl]; rfl
    rw [List.getElem?_eq_none (show (w_Model Y q).length ≤ c from h), List.getElem?_eq_none (by omega)]
