def f10_forget (σ : z_M) : Option (Unit × z_M) :=
  z_let (z_set σ 58 2 0) fun σ1 =>
  some ((), σ1)
def f11_state (p1 : Int32) (σ : z_M) : Option (Int32 × z_M) :=
  z_bnd (f10_forget σ) fun _ σ2 =>
  z_let (z_set σ2 18 5 p1) fun σ3 =>
  some (σ 18 5, σ3)
def f11_house (σ : z_M) : Option (Int32 × z_M) :=
  if σ 1 0 < 8 then
    z_bnd (f10_forget σ) fun _ σ2 =>
    z_let (z_set σ2 1 0 ((σ2 1 0) + 1)) fun σ3 =>
    some ((σ3 1 0) - 1, σ3)
  else
    some ((-1), σ)
def f11_isThing_J14 (σ : z_M) : Option (Int32 × z_M) :=
  some (0, σ)
def f11_isThing (p0 : Int32) (σ : z_M) : Option (Int32 × z_M) :=
  if p0 < 0 then
    f11_isThing_J14 σ
  else
    if p0 < 8 then
      some (1, σ)
    else
      f11_isThing_J14 σ
def f11_mostOf (p0 : Int32) (σ : z_M) : Option (Int32 × z_M) :=
  if p0 = 0 then
    some (8, σ)
  else
    if p0 = 3 then
      some (5, σ)
    else
      some (1000, σ)
def f11_set_J35 (v1 : Int32) (v2 : Int32) (v3 : Int32) (σ : z_M) : Option (Int32 × z_M) :=
  z_bnd (f10_forget σ) fun _ σ2 =>
  if v1 = 0 then
    z_let (z_set σ2 1 1 v3) fun σ7 =>
    some (1, σ7)
  else
    if v1 = 1 then
      z_let (z_set σ2 1 2 v3) fun σ6 =>
      some (1, σ6)
    else
      if v1 = 2 then
        z_let (z_set σ2 1 3 v3) fun σ5 =>
        some (1, σ5)
      else
        z_chk (z_in v2 8) <|
        z_let (z_set σ2 2 (z_ix v2) v3) fun σ4 =>
        some (1, σ4)
def f11_set (p1 : Int32) (p2 : Int32) (p3 : Int32) (σ : z_M) : Option (Int32 × z_M) :=
  if p1 < 0 then
    some (0, σ)
  else
    if 3 < p1 then
      some (0, σ)
    else
      if p3 < 0 then
        some (0, σ)
      else
        z_bnd (f11_mostOf p1 σ) fun r1 σ2 =>
        if r1 < p3 then
          some (0, σ2)
        else
          if p1 = 3 then
            z_bnd (f11_isThing p2 σ2) fun r3 σ4 =>
            if r3 = 0 then
              some (0, σ4)
            else
              f11_set_J35 p1 p2 p3 σ4
          else
            f11_set_J35 p1 p2 p3 σ2
def f1_join (c0 : Nat) (p1 : Int32) (p2 : Int32) (p3 : Int32) (σ : z_M) : Option (Unit × z_M) :=
  if p3 = 0 then
    z_chk (z_in p1 8) <|
    z_chk (z_in p1 8) <|
    z_let (z_set σ (c0 + 2) (z_ix p1) ((σ (c0 + 2) (z_ix p1)) &&& ((z_shl 1 p2) ^^^ (-1)))) fun σ3 =>
    z_chk (z_in p2 8) <|
    z_chk (z_in p2 8) <|
    z_let (z_set σ3 (c0 + 2) (z_ix p2) ((σ3 (c0 + 2) (z_ix p2)) &&& ((z_shl 1 p1) ^^^ (-1)))) fun σ6 =>
    some ((), σ6)
  else
    z_chk (z_in p1 8) <|
    z_chk (z_in p1 8) <|
    z_let (z_set σ (c0 + 2) (z_ix p1) ((σ (c0 + 2) (z_ix p1)) ||| (z_shl 1 p2))) fun σ9 =>
    z_chk (z_in p2 8) <|
    z_chk (z_in p2 8) <|
    z_let (z_set σ9 (c0 + 2) (z_ix p2) ((σ9 (c0 + 2) (z_ix p2)) ||| (z_shl 1 p1))) fun σ12 =>
    some ((), σ12)
def f11_isHouse_J19 (σ : z_M) : Option (Int32 × z_M) :=
  some (0, σ)
def f11_isHouse (p1 : Int32) (σ : z_M) : Option (Int32 × z_M) :=
  if p1 < 0 then
    f11_isHouse_J19 σ
  else
    if p1 < σ 1 0 then
      some (1, σ)
    else
      f11_isHouse_J19 σ
def f11_areTwo_J25 (σ : z_M) : Option (Int32 × z_M) :=
  some (0, σ)
def f11_areTwo (p1 : Int32) (p2 : Int32) (σ : z_M) : Option (Int32 × z_M) :=
  z_bnd (f11_isHouse p1 σ) fun r1 σ2 =>
  if r1 = 0 then
    f11_areTwo_J25 σ2
  else
    z_bnd (f11_isHouse p2 σ2) fun r3 σ4 =>
    if r3 = 0 then
      f11_areTwo_J25 σ4
    else
      if p1 = p2 then
        f11_areTwo_J25 σ4
      else
        some (1, σ4)
def f11_line (p1 : Int32) (p2 : Int32) (p3 : Int32) (σ : z_M) : Option (Int32 × z_M) :=
  z_bnd (f11_areTwo p1 p2 σ) fun r1 σ2 =>
  if r1 = 0 then
    some (0, σ2)
  else
    z_bnd (f10_forget σ2) fun _ σ4 =>
    z_bnd (f1_join 1 p1 p2 p3 σ4) fun _ σ6 =>
    some (1, σ6)
def f8_add_L3 : Nat → Int32 → Int32 → z_M → Option (Unit × z_M)
  | 0, _, _, _ => none
  | n + 1, v1, v2, σ =>
    if v2 < 0 then
      some ((), σ)
    else
      if σ 96 1 < 400 then
        z_chk (z_in (σ 96 1) 400) <|
        z_let (z_set σ 97 (z_ix (σ 96 1)) (((z_shr v1 v2).toInt8.toInt32).toInt8.toInt32)) fun σ2 =>
        z_let (z_set σ2 96 1 ((σ2 96 1) + 1)) fun σ3 =>
        f8_add_L3 n v1 (v2 + (-8)) σ3
      else
        f8_add_L3 n v1 (v2 + (-8)) σ
def f8_add (p1 : Int32) (σ : z_M) : Option (Unit × z_M) :=
  f8_add_L3 z_fu p1 24 σ
def f11_feed (p1 : Int32) (p2 : Int32) (p3 : Int32) (p4 : Int32) (p5 : Int32) (σ : z_M) : Option (Int32 × z_M) :=
  if 400 < (σ 96 1) + 20 then
    some ((-1), σ)
  else
    z_bnd (f8_add p1 σ) fun _ σ2 =>
    z_bnd (f8_add p2 σ2) fun _ σ4 =>
    z_bnd (f8_add p3 σ4) fun _ σ6 =>
    z_bnd (f8_add p4 σ6) fun _ σ8 =>
    z_bnd (f8_add p5 σ8) fun _ σ10 =>
    some (σ10 96 1, σ10)
def f11_end (p1 : Int32) (σ : z_M) : Option (Int32 × z_M) :=
  if p1 < 0 then
    some (0, σ)
  else
    if σ 96 1 < p1 then
      some (0, σ)
    else
      z_let (z_set σ 96 1 p1) fun σ1 =>
      some (1, σ1)
def f1_told (c0 : Nat) (p1 : Int32) (σ : z_M) : Option (Nat × z_M) :=
  if p1 = 0 then
    some ((c0 + 3), σ)
  else
    if p1 = 1 then
      some ((c0 + 6), σ)
    else
      if p1 = 2 then
        some ((c0 + 9), σ)
      else
        some ((c0 + 12), σ)
def f3_kind (σ : z_M) : Option (Int32 × z_M) :=
  if 400 < σ 101 4 then
    some (43, σ)
  else
    z_chk (z_in (σ 101 4) 401) <|
    some (σ 98 (z_ix (σ 101 4)), σ)
def f3_fail (p1 : Int32) (p2 : Int32) (σ : z_M) : Option (Unit × z_M) :=
  if σ 101 2 = 0 then
    z_let (z_set σ 101 2 p1) fun σ1 =>
    z_chk (z_in p2 401) <|
    z_let (z_set σ1 101 3 (σ1 100 (z_ix p2))) fun σ3 =>
    some ((), σ3)
  else
    some ((), σ)
def f3_begins (p1 : Int32) (σ : z_M) : Option (Unit × z_M) :=
  if p1 = 0 then
    z_bnd (f3_fail 1 (σ 101 4) σ) fun _ σ5 =>
    some ((), σ5)
  else
    if σ 102 2 < σ 101 6 then
      z_let (z_set σ 101 4 ((σ 101 4) + 1)) fun σ1 =>
      some ((), σ1)
    else
      z_bnd (f3_fail 3 (σ 101 4) σ) fun _ σ3 =>
      some ((), σ3)
def f3_takes (p1 : Int32) (σ : z_M) : Option (Unit × z_M) :=
  if σ 101 2 = 0 then
    z_bnd (f3_kind σ) fun r1 σ2 =>
    if r1 = p1 then
      z_let (z_set σ2 101 4 ((σ2 101 4) + 1)) fun σ5 =>
      some ((), σ5)
    else
      z_bnd (f3_fail 1 (σ2 101 4) σ2) fun _ σ4 =>
      some ((), σ4)
  else
    some ((), σ)
def f9_add (c0 : Nat) (p1 : Int32) (p2 : Int32) (p3 : Int32) (p4 : Int32) (p5 : Int32) (σ : z_M) : Option (Unit × z_M) :=
  if Int32.ofNat (S1.2.1 (c0 + 1)) < ((σ c0 2) * 5) + 5 then
    some ((), σ)
  else
    z_chk (z_in ((σ c0 2) * 5) (S1.2.1 (c0 + 1))) <|
    z_let (z_set σ (c0 + 1) (z_ix ((σ c0 2) * 5)) p1) fun σ2 =>
    z_chk (z_in (((σ c0 2) * 5) + 1) (S1.2.1 (c0 + 1))) <|
    z_let (z_set σ2 (c0 + 1) (z_ix (((σ c0 2) * 5) + 1)) p2) fun σ4 =>
    z_chk (z_in (((σ c0 2) * 5) + 2) (S1.2.1 (c0 + 1))) <|
    z_let (z_set σ4 (c0 + 1) (z_ix (((σ c0 2) * 5) + 2)) p3) fun σ6 =>
    z_chk (z_in (((σ c0 2) * 5) + 3) (S1.2.1 (c0 + 1))) <|
    z_let (z_set σ6 (c0 + 1) (z_ix (((σ c0 2) * 5) + 3)) p4) fun σ8 =>
    z_chk (z_in (((σ c0 2) * 5) + 4) (S1.2.1 (c0 + 1))) <|
    z_let (z_set σ8 (c0 + 1) (z_ix (((σ c0 2) * 5) + 4)) p5) fun σ10 =>
    z_let (z_set σ10 c0 2 ((σ10 c0 2) + 1)) fun σ11 =>
    some ((), σ11)
def f3_finish (p1 : Int32) (p2 : Int32) (p3 : Int32) (p4 : Int32) (p5 : Int32) (σ : z_M) : Option (Unit × z_M) :=
  z_bnd (f3_takes 32 σ) fun _ σ2 =>
  if σ2 101 2 = 0 then
    z_bnd (f9_add 102 p1 p2 p3 p4 p5 σ2) fun _ σ4 =>
    some ((), σ4)
  else
    some ((), σ2)
def f9_emit (c0 : Nat) (p1 : Int32) (σ : z_M) : Option (Unit × z_M) :=
  if σ c0 3 < Int32.ofNat (S1.2.1 (c0 + 2)) then
    z_chk (z_in (σ c0 3) (S1.2.1 (c0 + 2))) <|
    z_let (z_set σ (c0 + 2) (z_ix (σ c0 3)) p1) fun σ2 =>
    z_let (z_set σ2 c0 3 ((σ2 c0 3) + 1)) fun σ3 =>
    some ((), σ3)
  else
    some ((), σ)
def f3_settle_J72 (k0 : Int32 → z_M → Option (Unit × z_M)) (v1 : Int32) (σ : z_M) : Option (Unit × z_M) :=
  z_chk (z_in (σ 101 8) 32) <|
  z_bnd (f9_emit 102 (σ 105 (z_ix (σ 101 8))) σ) fun _ σ3 =>
  k0 v1 σ3
def f3_settle_L0 : Nat → Int32 → z_M → Option (Unit × z_M)
  | 0, _, _ => none
  | n + 1, v1, σ =>
    if 0 < σ 101 8 then
      z_chk (z_in ((σ 101 8) - 1) 32) <|
      if σ 105 (z_ix ((σ 101 8) - 1)) = 37 then
        some ((), σ)
      else
        z_chk (z_in ((σ 101 8) - 1) 32) <|
        if σ 105 (z_ix ((σ 101 8) - 1)) < v1 then
          some ((), σ)
        else
          z_let (z_set σ 101 8 ((σ 101 8) - 1)) fun σ3 =>
          z_chk (z_in (σ3 101 8) 32) <|
          if σ3 105 (z_ix (σ3 101 8)) = 14 then
            z_let (z_set σ3 101 9 ((σ3 101 9) - 1)) fun σ5 =>
            f3_settle_J72 (f3_settle_L0 n) v1 σ5
          else
            f3_settle_J72 (f3_settle_L0 n) v1 σ3
    else
      some ((), σ)
def f3_settle (p1 : Int32) (σ : z_M) : Option (Unit × z_M) :=
  f3_settle_L0 z_fu p1 σ
def f3_waits_J35 (σ : z_M) : Option (Unit × z_M) :=
  z_let (z_set σ 101 4 ((σ 101 4) + 1)) fun σ1 =>
  some ((), σ1)
def f3_waits (σ : z_M) : Option (Unit × z_M) :=
  if σ 101 8 < 32 then
    z_bnd (f3_kind σ) fun r1 σ2 =>
    z_chk (z_in (σ 101 8) 32) <|
    z_let (z_set σ2 105 (z_ix (σ 101 8)) r1) fun σ4 =>
    z_let (z_set σ4 101 8 ((σ4 101 8) + 1)) fun σ5 =>
    f3_waits_J35 σ5
  else
    f3_waits_J35 σ
def f3_joins_J33 (v2 : Int32) (σ : z_M) : Option (Int32 × z_M) :=
  z_bnd (f3_settle v2 σ) fun _ σ2 =>
  z_bnd (f3_waits σ2) fun _ σ4 =>
  some (1, σ4)
def f3_joins_J65 (σ : z_M) : Option (Int32 × z_M) :=
  z_bnd (f3_fail 1 (σ 101 4) σ) fun _ σ2 =>
  some (0, σ2)
def f3_joins_L2 : Nat → Int32 → z_M → Option (Int32 × z_M)
  | 0, _, _ => none
  | n + 1, v1, σ =>
    if 400 < v1 then
      some (0, σ)
    else
      if σ 101 2 = 0 then
        z_bnd (f3_kind σ) fun r1 σ2 =>
        if r1 = 13 then
          f3_joins_J33 r1 σ2
        else
          if r1 = 12 then
            f3_joins_J33 r1 σ2
          else
            z_bnd (f3_settle 12 σ2) fun _ σ4 =>
            if σ4 101 8 = 0 then
              some (0, σ4)
            else
              if r1 = 38 then
                z_let (z_set σ4 101 8 ((σ4 101 8) - 1)) fun σ5 =>
                z_let (z_set σ5 101 9 ((σ5 101 9) - 1)) fun σ6 =>
                z_let (z_set σ6 101 4 ((σ6 101 4) + 1)) fun σ7 =>
                f3_joins_L2 n (v1 + 1) σ7
              else
                f3_joins_J65 σ4
      else
        some (0, σ)
def f3_joins (σ : z_M) : Option (Int32 × z_M) :=
  f3_joins_L2 z_fu 0 σ
def f3_opens (σ : z_M) : Option (Unit × z_M) :=
  if σ 101 9 < 8 then
    z_let (z_set σ 101 9 ((σ 101 9) + 1)) fun σ1 =>
    z_bnd (f3_waits σ1) fun _ σ3 =>
    some ((), σ3)
  else
    z_bnd (f3_fail 3 (σ 101 4) σ) fun _ σ5 =>
    some ((), σ5)
def f3_number_J53 (σ : z_M) : Option (Int32 × z_M) :=
  z_bnd (f3_fail 2 (σ 101 4) σ) fun _ σ2 =>
  some ((-1), σ2)
def f3_number (p1 : Int32) (p2 : Int32) (σ : z_M) : Option (Int32 × z_M) :=
  if σ 101 2 = 0 then
    z_chk (z_in (σ 101 4) 401) <|
    z_bnd (f3_kind σ) fun r2 σ3 =>
    if r2 = 42 then
      if σ 99 (z_ix (σ 101 4)) < p1 then
        f3_number_J53 σ3
      else
        if p2 < σ 99 (z_ix (σ 101 4)) then
          f3_number_J53 σ3
        else
          z_let (z_set σ3 101 4 ((σ3 101 4) + 1)) fun σ4 =>
          some (σ 99 (z_ix (σ 101 4)), σ4)
    else
      z_bnd (f3_fail 1 (σ3 101 4) σ3) fun _ σ6 =>
      some ((-1), σ6)
  else
    some ((-1), σ)
def f3_readUnit (σ : z_M) : Option (Unit × z_M) :=
  if σ 101 2 = 0 then
    z_bnd (f3_kind σ) fun r1 σ2 =>
    if r1 = 42 then
      z_chk (z_in (σ2 101 4) 401) <|
      z_bnd (f9_emit 102 (64 + (σ2 99 (z_ix (σ2 101 4)))) σ2) fun _ σ14 =>
      z_let (z_set σ14 101 4 ((σ14 101 4) + 1)) fun σ15 =>
      some ((), σ15)
    else
      z_bnd (f3_kind σ2) fun r3 σ4 =>
      if 7 < r3 then
        z_bnd (f3_fail 1 (σ4 101 4) σ4) fun _ σ6 =>
        some ((), σ6)
      else
        z_bnd (f3_kind σ4) fun r7 σ8 =>
        z_bnd (f9_emit 102 r7 σ8) fun _ σ10 =>
        z_let (z_set σ10 101 4 ((σ10 101 4) + 1)) fun σ11 =>
        some ((), σ11)
  else
    some ((), σ)
def f3_readSum_J131 (k8 : Int32 → Int32 → z_M → Option (Unit × z_M)) (v2 : Int32) (v3 : Int32) (σ : z_M) : Option (Unit × z_M) :=
  z_let (z_set σ 101 4 ((σ 101 4) + 1)) fun σ1 =>
  z_bnd (f3_readUnit σ1) fun _ σ3 =>
  k8 v3 (v2 + 1) σ3
def f3_readSum_J118 (k8 : Int32 → Int32 → z_M → Option (Unit × z_M)) (v2 : Int32) (v3 : Int32) (σ : z_M) : Option (Unit × z_M) :=
  if v3 = 33 then
    f3_readSum_J131 k8 v2 v3 σ
  else
    if v3 = 34 then
      f3_readSum_J131 k8 v2 v3 σ
    else
      some ((), σ)
def f3_readSum_L8 : Nat → Int32 → Int32 → z_M → Option (Unit × z_M)
  | 0, _, _, _ => none
  | n + 1, v1, v2, σ =>
    if 400 < v2 then
      some ((), σ)
    else
      if σ 101 2 = 0 then
        z_bnd (f3_kind σ) fun r1 σ2 =>
        if r1 = 35 then
          z_let (z_set σ2 101 4 ((σ2 101 4) + 1)) fun σ12 =>
          z_bnd (f3_readUnit σ12) fun _ σ14 =>
          z_bnd (f9_emit 102 35 σ14) fun _ σ16 =>
          f3_readSum_L8 n v1 (v2 + 1) σ16
        else
          if r1 = 36 then
            z_let (z_set σ2 101 4 ((σ2 101 4) + 1)) fun σ5 =>
            z_bnd (f3_number 1 9999 σ5) fun r6 σ7 =>
            z_bnd (f9_emit 102 (64 + r6) σ7) fun _ σ9 =>
            z_bnd (f9_emit 102 36 σ9) fun _ σ11 =>
            f3_readSum_L8 n v1 (v2 + 1) σ11
          else
            if v1 = (-1) then
              f3_readSum_J118 (f3_readSum_L8 n) v2 r1 σ2
            else
              z_bnd (f9_emit 102 v1 σ2) fun _ σ4 =>
              f3_readSum_J118 (f3_readSum_L8 n) v2 r1 σ4
      else
        some ((), σ)
def f3_readSum (σ : z_M) : Option (Unit × z_M) :=
  z_bnd (f3_readUnit σ) fun _ σ2 =>
  f3_readSum_L8 z_fu (-1) 0 σ2
def f3_readCondition_J50 (k14 : Int32 → Int32 → z_M → Option (Unit × z_M)) (v1 : Int32) (v2 : Int32) (σ : z_M) : Option (Unit × z_M) :=
  z_bnd (f3_opens σ) fun _ σ2 =>
  k14 v1 (v2 + 1) σ2
def f3_readCondition_J85 (k14 : Int32 → Int32 → z_M → Option (Unit × z_M)) (v2 : Int32) (v3 : Int32) (s1 : Int32) (σ : z_M) : Option (Unit × z_M) :=
  z_bnd (f3_takes s1 σ) fun _ σ2 =>
  z_bnd (f3_readSum σ2) fun _ σ4 =>
  z_bnd (f9_emit 102 v3 σ4) fun _ σ6 =>
  z_bnd (f3_joins σ6) fun r7 σ8 =>
  k14 r7 (v2 + 1) σ8
def f3_readCondition_J83 (k14 : Int32 → Int32 → z_M → Option (Unit × z_M)) (v2 : Int32) (v3 : Int32) (σ : z_M) : Option (Unit × z_M) :=
  f3_readCondition_J85 k14 v2 v3 40 σ
def f3_readCondition_L14 : Nat → Int32 → Int32 → z_M → Option (Unit × z_M)
  | 0, _, _, _ => none
  | n + 1, v1, v2, σ =>
    if 400 < v2 then
      some ((), σ)
    else
      if v1 = 0 then
        some ((), σ)
      else
        if σ 101 2 = 0 then
          z_bnd (f3_kind σ) fun r1 σ2 =>
          if r1 = 14 then
            f3_readCondition_J50 (f3_readCondition_L14 n) v1 v2 σ2
          else
            z_bnd (f3_kind σ2) fun r3 σ4 =>
            if r3 = 37 then
              f3_readCondition_J50 (f3_readCondition_L14 n) v1 v2 σ4
            else
              z_bnd (f3_readSum σ4) fun _ σ6 =>
              z_bnd (f3_kind σ6) fun r7 σ8 =>
              if r7 < 39 then
                f3_readCondition_J83 (f3_readCondition_L14 n) v2 r7 σ8
              else
                if 41 < r7 then
                  f3_readCondition_J83 (f3_readCondition_L14 n) v2 r7 σ8
                else
                  f3_readCondition_J85 (f3_readCondition_L14 n) v2 r7 r7 σ8
        else
          some ((), σ)
def f3_readCondition (σ : z_M) : Option (Unit × z_M) :=
  z_let (z_set σ 101 8 0) fun σ1 =>
  z_let (z_set σ1 101 9 0) fun σ2 =>
  f3_readCondition_L14 z_fu 1 0 σ2
def f3_readLaw_J76 (v1 : Int32) (v2 : Int32) (v3 : Int32) (σ : z_M) : Option (Unit × z_M) :=
  z_bnd (f3_finish v1 v2 v3 (σ 102 3) 0 σ) fun _ σ2 =>
  some ((), σ2)
def f3_readLaw_J23 (v1 : Int32) (s1 : Int32) (σ : z_M) : Option (Unit × z_M) :=
  z_bnd (f3_begins s1 σ) fun _ σ2 =>
  z_bnd (f3_readSum σ2) fun _ σ4 =>
  if σ4 101 2 = 0 then
    z_bnd (f3_kind σ4) fun r5 σ6 =>
    if r5 = 11 then
      z_let (z_set σ6 101 4 ((σ6 101 4) + 1)) fun σ7 =>
      z_bnd (f3_readCondition σ7) fun _ σ9 =>
      f3_readLaw_J76 v1 (σ2 102 3) (σ4 102 3) σ9
    else
      f3_readLaw_J76 v1 (σ2 102 3) (σ4 102 3) σ6
  else
    f3_readLaw_J76 v1 (σ2 102 3) (σ4 102 3) σ4
def f3_readLaw_J22 (v1 : Int32) (σ : z_M) : Option (Unit × z_M) :=
  f3_readLaw_J23 v1 0 σ
def f3_readLaw (σ : z_M) : Option (Unit × z_M) :=
  z_bnd (f3_kind σ) fun r1 σ2 =>
  if r1 < 8 then
    f3_readLaw_J22 r1 σ2
  else
    if 10 < r1 then
      f3_readLaw_J22 r1 σ2
    else
      f3_readLaw_J23 r1 1 σ2
def f3_readPlan_J180 (v1 : Int32) (v2 : Int32) (v4 : Int32) (v5 : Int32) (v6 : Int32) (σ : z_M) : Option (Unit × z_M) :=
  z_bnd (f3_finish v1 v2 v4 v5 v6 σ) fun _ σ2 =>
  some ((), σ2)
def f3_readPlan_J152 (v1 : Int32) (v2 : Int32) (v4 : Int32) (v5 : Int32) (s1 : Int32) (s2 : Int32) (σ : z_M) : Option (Unit × z_M) :=
  z_bnd (f3_number s1 s2 σ) fun r1 σ2 =>
  f3_readPlan_J180 v1 v2 v4 v5 r1 σ2
def f3_readPlan_J134 (v1 : Int32) (v2 : Int32) (v4 : Int32) (v5 : Int32) (s1 : Int32) (σ : z_M) : Option (Unit × z_M) :=
  z_bnd (f3_takes s1 σ) fun _ σ2 =>
  if v2 = 22 then
    f3_readPlan_J152 v1 v2 v4 v5 0 9 σ2
  else
    f3_readPlan_J152 v1 v2 v4 v5 0 100 σ2
def f3_readPlan_J106 (v1 : Int32) (v2 : Int32) (v4 : Int32) (σ : z_M) : Option (Unit × z_M) :=
  z_bnd (f3_takes 23 σ) fun _ σ2 =>
  z_bnd (f3_number 0 7 σ2) fun r3 σ4 =>
  if v2 = 22 then
    f3_readPlan_J134 v1 v2 v4 r3 1 σ4
  else
    f3_readPlan_J134 v1 v2 v4 r3 27 σ4
def f3_readPlan_J72 (v1 : Int32) (v2 : Int32) (s1 : Int32) (σ : z_M) : Option (Unit × z_M) :=
  z_bnd (f3_takes s1 σ) fun _ σ2 =>
  z_bnd (f3_number 0 ((σ2 101 5) - 1) σ2) fun r3 σ4 =>
  if v2 = 22 then
    f3_readPlan_J106 v1 v2 r3 σ4
  else
    if v2 = 26 then
      f3_readPlan_J106 v1 v2 r3 σ4
    else
      if v2 = 2 then
        z_bnd (f3_takes 24 σ4) fun _ σ6 =>
        z_bnd (f3_number 1 99 σ6) fun r7 σ8 =>
        f3_readPlan_J180 v1 v2 r3 r7 0 σ8
      else
        f3_readPlan_J180 v1 v2 r3 0 0 σ4
def f3_readPlan_J60 (v1 : Int32) (v2 : Int32) (s0 : Int32) (σ : z_M) : Option (Unit × z_M) :=
  if s0 = 0 then
    f3_readPlan_J72 v1 v2 22 σ
  else
    f3_readPlan_J72 v1 v2 v2 σ
def f3_readPlan_J15 (s1 : Int32) (σ : z_M) : Option (Unit × z_M) :=
  z_bnd (f3_begins s1 σ) fun _ σ2 =>
  z_bnd (f3_number 0 999 σ2) fun r3 σ4 =>
  z_bnd (f3_kind σ4) fun r5 σ6 =>
  if r5 = 22 then
    f3_readPlan_J60 r3 r5 1 σ6
  else
    if r5 = 2 then
      f3_readPlan_J60 r3 r5 1 σ6
    else
      if r5 = 25 then
        f3_readPlan_J60 r3 r5 1 σ6
      else
        if r5 = 26 then
          f3_readPlan_J60 r3 r5 1 σ6
        else
          f3_readPlan_J60 r3 r5 0 σ6
def f3_readPlan (σ : z_M) : Option (Unit × z_M) :=
  z_bnd (f3_kind σ) fun r1 σ2 =>
  if r1 = 21 then
    f3_readPlan_J15 1 σ2
  else
    f3_readPlan_J15 0 σ2
def f3_another (p1 : Int32) (σ : z_M) : Option (Int32 × z_M) :=
  z_bnd (f3_number 0 7 σ) fun r1 σ2 =>
  if σ2 101 2 = 0 then
    if r1 = p1 then
      z_bnd (f3_fail 2 (σ 101 4) σ2) fun _ σ4 =>
      some (r1, σ4)
    else
      some (r1, σ2)
  else
    some (r1, σ2)
def f3_readReason_J152 (v2 : Int32) (v3 : Int32) (σ : z_M) : Option (Unit × z_M) :=
  z_bnd (f3_takes 16 σ) fun _ σ2 =>
  z_bnd (f3_number 1 100 σ2) fun r3 σ4 =>
  z_bnd (f3_finish v2 v3 r3 0 0 σ4) fun _ σ6 =>
  some ((), σ6)
def f3_readReason_L102 : Nat → Int32 → Int32 → Int32 → z_M → Option (Unit × z_M)
  | 0, _, _, _, _ => none
  | n + 1, v2, v3, v4, σ =>
    if v4 < 400 then
      if σ 101 2 = 0 then
        z_bnd (f3_kind σ) fun r1 σ2 =>
        if r1 = 13 then
          z_let (z_set σ2 101 4 ((σ2 101 4) + 1)) fun σ3 =>
          z_bnd (f3_another v2 σ3) fun r4 σ5 =>
          f3_readReason_L102 n v2 (v3 ||| (z_shl 1 r4)) (v4 + 1) σ5
        else
          f3_readReason_J152 v2 v3 σ2
      else
        f3_readReason_J152 v2 v3 σ
    else
      f3_readReason_J152 v2 v3 σ
def f3_readReason_J40 (v2 : Int32) (σ : z_M) : Option (Unit × z_M) :=
  if σ 101 2 = 0 then
    z_bnd (f3_kind σ) fun r1 σ2 =>
    if r1 = 17 then
      z_let (z_set σ2 101 4 ((σ2 101 4) + 1)) fun σ7 =>
      z_bnd (f3_another v2 σ7) fun r8 σ9 =>
      z_bnd (f3_finish v2 (z_shl 1 r8) 0 0 0 σ9) fun _ σ11 =>
      some ((), σ11)
    else
      z_bnd (f3_takes 15 σ2) fun _ σ4 =>
      z_bnd (f3_another v2 σ4) fun r5 σ6 =>
      f3_readReason_L102 z_fu v2 (z_shl 1 r5) 0 σ6
  else
    some ((), σ)
def f3_readReason (σ : z_M) : Option (Unit × z_M) :=
  z_bnd (f3_number 0 7 σ) fun r1 σ2 =>
  if σ2 101 2 = 0 then
    if σ2 102 2 < σ2 101 6 then
      f3_readReason_J40 r1 σ2
    else
      z_bnd (f3_fail 3 (σ 101 4) σ2) fun _ σ4 =>
      f3_readReason_J40 r1 σ4
  else
    f3_readReason_J40 r1 σ2
def f3_readWork_J79 (v3 : Int32) (s1 : Int32) (s2 : Int32) (σ : z_M) : Option (Unit × z_M) :=
  z_bnd (f3_finish s1 s2 v3 0 0 σ) fun _ σ2 =>
  some ((), σ2)
def f3_readWork_J57 (v1 : Int32) (v2 : Int32) (s1 : Int32) (σ : z_M) : Option (Unit × z_M) :=
  z_bnd (f3_takes s1 σ) fun _ σ2 =>
  z_bnd (f3_number 0 7 σ2) fun r3 σ4 =>
  if v2 = 0 then
    f3_readWork_J79 r3 v1 0 σ4
  else
    f3_readWork_J79 r3 v1 1 σ4
def f3_readWork_J44 (v1 : Int32) (s0 : Int32) (σ : z_M) : Option (Unit × z_M) :=
  if s0 = 0 then
    f3_readWork_J57 v1 s0 20 σ
  else
    f3_readWork_J57 v1 s0 19 σ
def f3_readWork_J15 (s1 : Int32) (σ : z_M) : Option (Unit × z_M) :=
  z_bnd (f3_begins s1 σ) fun _ σ2 =>
  z_bnd (f3_number 0 ((σ2 101 5) - 1) σ2) fun r3 σ4 =>
  z_bnd (f3_kind σ4) fun r5 σ6 =>
  if r5 = 19 then
    f3_readWork_J44 r3 1 σ6
  else
    f3_readWork_J44 r3 0 σ6
def f3_readWork (σ : z_M) : Option (Unit × z_M) :=
  z_bnd (f3_kind σ) fun r1 σ2 =>
  if r1 = 18 then
    f3_readWork_J15 1 σ2
  else
    f3_readWork_J15 0 σ2
def f8_isDigit_J16 (σ : z_M) : Option (Int32 × z_M) :=
  some (0, σ)
def f8_isDigit (p0 : Int32) (σ : z_M) : Option (Int32 × z_M) :=
  if p0 < 48 then
    f8_isDigit_J16 σ
  else
    if 57 < p0 then
      f8_isDigit_J16 σ
    else
      some (1, σ)
def f8_digitsEnd_L2 : Nat → Int32 → z_M → Option (Int32 × z_M)
  | 0, _, _ => none
  | n + 1, v2, σ =>
    if v2 < σ 96 1 then
      z_chk (z_in v2 400) <|
      z_bnd (f8_isDigit (σ 97 (z_ix v2)) σ) fun r2 σ3 =>
      if r2 = 0 then
        some (v2, σ3)
      else
        f8_digitsEnd_L2 n (v2 + 1) σ3
    else
      some (v2, σ)
def f8_digitsEnd (p1 : Int32) (σ : z_M) : Option (Int32 × z_M) :=
  f8_digitsEnd_L2 z_fu p1 σ
def f8_isLetter_J28 (σ : z_M) : Option (Int32 × z_M) :=
  some (0, σ)
def f8_isLetter_J12 (v0 : Int32) (σ : z_M) : Option (Int32 × z_M) :=
  if v0 < 65 then
    f8_isLetter_J28 σ
  else
    if 90 < v0 then
      f8_isLetter_J28 σ
    else
      some (1, σ)
def f8_isLetter (p0 : Int32) (σ : z_M) : Option (Int32 × z_M) :=
  if p0 < 97 then
    f8_isLetter_J12 p0 σ
  else
    if 122 < p0 then
      f8_isLetter_J12 p0 σ
    else
      some (1, σ)
def f8_lettersEnd_L2 : Nat → Int32 → z_M → Option (Int32 × z_M)
  | 0, _, _ => none
  | n + 1, v2, σ =>
    if v2 < σ 96 1 then
      z_chk (z_in v2 400) <|
      z_bnd (f8_isLetter (σ 97 (z_ix v2)) σ) fun r2 σ3 =>
      if r2 = 0 then
        some (v2, σ3)
      else
        f8_lettersEnd_L2 n (v2 + 1) σ3
    else
      some (v2, σ)
def f8_lettersEnd (p1 : Int32) (σ : z_M) : Option (Int32 × z_M) :=
  f8_lettersEnd_L2 z_fu p1 σ
def f8_numberOf_L5 : Nat → Int32 → Int32 → Int32 → z_M → Option (Int32 × z_M)
  | 0, _, _, _, _ => none
  | n + 1, v2, v3, v4, σ =>
    if v4 < v2 then
      z_chk (z_in v4 400) <|
      z_let (((v3 * 10) + (σ 97 (z_ix v4))) - 48) fun x2 =>
      f8_numberOf_L5 n v2 x2 (v4 + 1) σ
    else
      some (v3, σ)
def f8_numberOf (p1 : Int32) (p2 : Int32) (σ : z_M) : Option (Int32 × z_M) :=
  f8_numberOf_L5 z_fu p2 0 p1 σ
def f8_put (p1 : Int32) (p2 : Int32) (p3 : Int32) (σ : z_M) : Option (Unit × z_M) :=
  if 400 < σ 96 5 then
    some ((), σ)
  else
    z_chk (z_in (σ 96 5) 401) <|
    z_let (z_set σ 98 (z_ix (σ 96 5)) p1) fun σ2 =>
    z_chk (z_in (σ2 96 5) 401) <|
    z_let (z_set σ2 99 (z_ix (σ2 96 5)) p2) fun σ4 =>
    z_chk (z_in (σ4 96 5) 401) <|
    z_let (z_set σ4 100 (z_ix (σ4 96 5)) p3) fun σ6 =>
    z_let (z_set σ6 96 5 ((σ6 96 5) + 1)) fun σ7 =>
    some ((), σ7)
def fj0_isLatin1 (i0 : Nat) (σ : z_M) : Option (Int32 × z_M) :=
  some (1, σ)
def fj0_coder (i0 : Nat) (σ : z_M) : Option (Int32 × z_M) :=
  some (0, σ)
def fj0_length (i0 : Nat) (σ : z_M) : Option (Int32 × z_M) :=
  z_bnd (fj0_coder i0 σ) fun r1 σ2 =>
  some (z_shr (nI (z_sn i0)) r1, σ2)
def fj1_canEncode_J15 (σ : z_M) : Option (Int32 × z_M) :=
  some (0, σ)
def fj1_canEncode (p0 : Int32) (σ : z_M) : Option (Int32 × z_M) :=
  if p0 < 0 then
    fj1_canEncode_J15 σ
  else
    if 255 < p0 then
      fj1_canEncode_J15 σ
    else
      some (1, σ)
def fj1_indexOfChar_L7 : Nat → Nat → Int32 → Int32 → Int32 → z_M → Option (Int32 × z_M)
  | 0, _, _, _, _, _ => none
  | n + 1, i0, v3, v4, v5, σ =>
    if v5 < v3 then
      z_chk (z_in v5 (z_sn i0)) <|
      if z_by i0 (z_ix v5) = v4 then
        some (v5, σ)
      else
        fj1_indexOfChar_L7 n i0 v3 v4 (v5 + 1) σ
    else
      some ((-1), σ)
def fj1_indexOfChar (i0 : Nat) (p1 : Int32) (p2 : Int32) (p3 : Int32) (σ : z_M) : Option (Int32 × z_M) :=
  fj1_indexOfChar_L7 z_fu i0 p3 p1.toInt8.toInt32 p2 σ
def fj1_indexOf (i0 : Nat) (p1 : Int32) (p2 : Int32) (p3 : Int32) (σ : z_M) : Option (Int32 × z_M) :=
  z_bnd (fj1_canEncode p1 σ) fun r1 σ2 =>
  if r1 = 0 then
    some ((-1), σ2)
  else
    if z_max p2 0 < z_min p3 (nI (z_sn i0)) then
      z_bnd (fj1_indexOfChar i0 p1 (z_max p2 0) (z_min p3 (nI (z_sn i0))) σ2) fun r3 σ4 =>
      some (r3, σ4)
    else
      some ((-1), σ2)
def fj0_indexOf2 (i0 : Nat) (p1 : Int32) (p2 : Int32) (σ : z_M) : Option (Int32 × z_M) :=
  z_bnd (fj0_isLatin1 i0 σ) fun r1 σ2 =>
  if r1 = 0 then
    none
  else
    z_bnd (fj0_length i0 σ2) fun r5 σ6 =>
    z_bnd (fj1_indexOf i0 p1 p2 r5 σ6) fun r7 σ8 =>
    some (r7, σ8)
def fj0_indexOf (i0 : Nat) (p1 : Int32) (σ : z_M) : Option (Int32 × z_M) :=
  z_bnd (fj0_indexOf2 i0 p1 0 σ) fun r1 σ2 =>
  some (r1, σ2)
def f8_signOf_J15 (s0 : Int32) (σ : z_M) : Option (Int32 × z_M) :=
  if s0 < 0 then
    some (44, σ)
  else
    some (32 + s0, σ)
def f8_signOf (p0 : Int32) (σ : z_M) : Option (Int32 × z_M) :=
  if 0 < p0 then
    z_bnd (fj0_indexOf 1 ((p0.toUInt32 % 65536).toInt32) σ) fun r1 σ2 =>
    f8_signOf_J15 r1 σ2
  else
    f8_signOf_J15 (-1) σ
def fj3_checkIndex (p0 : Int32) (p1 : Int32) (σ : z_M) : Option (Int32 × z_M) :=
  if p0 < 0 then
    none
  else
    if p0 < p1 then
      some (p0, σ)
    else
      none
def fj0_checkIndex (p0 : Int32) (p1 : Int32) (σ : z_M) : Option (Unit × z_M) :=
  z_bnd (fj3_checkIndex p0 p1 σ) fun r1 σ2 =>
  some ((), σ2)
def fj1_charAt (i0 : Nat) (p1 : Int32) (σ : z_M) : Option (Int32 × z_M) :=
  z_bnd (fj0_checkIndex p1 (nI (z_sn i0)) σ) fun _ σ2 =>
  z_chk (z_in p1 (z_sn i0)) <|
  z_chk (z_ch ((((z_by i0 (z_ix p1)) &&& 255).toUInt32 % 65536).toInt32)) <|
  some ((((z_by i0 (z_ix p1)) &&& 255).toUInt32 % 65536).toInt32, σ2)
def fj0_charAt (i0 : Nat) (p1 : Int32) (σ : z_M) : Option (Int32 × z_M) :=
  z_bnd (fj0_isLatin1 i0 σ) fun r1 σ2 =>
  if r1 = 0 then
    none
  else
    z_bnd (fj1_charAt i0 p1 σ2) fun r3 σ4 =>
    z_chk (z_ch r3) <|
    some (r3, σ4)
def f8_wordOf_J86 (k8 : Int32 → Int32 → Int32 → Int32 → Int32 → z_M → Option (Int32 × z_M)) (v1 : Int32) (v2 : Int32) (v3 : Int32) (v5 : Int32) (σ : z_M) : Option (Int32 × z_M) :=
  k8 v1 v2 v3 (-1) (v5 + 1) σ
def f8_wordOf_L8 : Nat → Int32 → Int32 → Int32 → Int32 → Int32 → z_M → Option (Int32 × z_M)
  | 0, _, _, _, _, _, _ => none
  | n + 1, v1, v2, v3, v4, v5, σ =>
    z_bnd (fj0_length 0 σ) fun r1 σ2 =>
    if v5 < r1 then
      z_bnd (fj0_charAt 0 v5 σ2) fun r3 σ4 =>
      if r3 = 32 then
        if v4 = v2 - v1 then
          some (v3, σ4)
        else
          f8_wordOf_L8 n v1 v2 (v3 + 1) 0 (v5 + 1) σ4
      else
        if v4 < 0 then
          f8_wordOf_J86 (f8_wordOf_L8 n) v1 v2 v3 v5 σ4
        else
          if v1 + v4 < v2 then
            z_chk (z_in (v1 + v4) 400) <|
            if σ4 97 (z_ix (v1 + v4)) = r3 then
              f8_wordOf_L8 n v1 v2 v3 (v4 + 1) (v5 + 1) σ4
            else
              f8_wordOf_J86 (f8_wordOf_L8 n) v1 v2 v3 v5 σ4
          else
            f8_wordOf_J86 (f8_wordOf_L8 n) v1 v2 v3 v5 σ4
    else
      some (44, σ2)
def f8_wordOf (p1 : Int32) (p2 : Int32) (σ : z_M) : Option (Int32 × z_M) :=
  f8_wordOf_L8 z_fu p1 p2 0 0 0 σ
def f8_cut_J96 (k9 : Int32 → Int32 → z_M → Option (Unit × z_M)) (v1 : Int32) (v2 : Int32) (v4 : Int32) (s1 : Int32) (σ : z_M) : Option (Unit × z_M) :=
  z_bnd (f8_numberOf v1 v4 σ) fun r1 σ2 =>
  z_bnd (f8_put s1 r1 v1 σ2) fun _ σ4 =>
  k9 v4 (v2 + 1) σ4
def f8_cut_J141 (σ : z_M) : Option (Unit × z_M) :=
  z_bnd (f8_put 43 0 (σ 96 1) σ) fun _ σ2 =>
  some ((), σ2)
def f8_cut_L9 : Nat → Int32 → Int32 → z_M → Option (Unit × z_M)
  | 0, _, _, _ => none
  | n + 1, v1, v2, σ =>
    if v2 < 400 then
      if v1 < σ 96 1 then
        z_chk (z_in v1 400) <|
        z_bnd (f8_isLetter (σ 97 (z_ix v1)) σ) fun r2 σ3 =>
        if r2 = 0 then
          z_bnd (f8_isDigit (σ 97 (z_ix v1)) σ3) fun r4 σ5 =>
          if r4 = 0 then
            if σ 97 (z_ix v1) = 32 then
              f8_cut_L9 n (v1 + 1) (v2 + 1) σ5
            else
              if σ 97 (z_ix v1) = 10 then
                f8_cut_L9 n (v1 + 1) (v2 + 1) σ5
              else
                z_bnd (f8_signOf (σ 97 (z_ix v1)) σ5) fun r6 σ7 =>
                z_bnd (f8_put r6 0 v1 σ7) fun _ σ9 =>
                f8_cut_L9 n (v1 + 1) (v2 + 1) σ9
          else
            z_bnd (f8_digitsEnd v1 σ5) fun r10 σ11 =>
            if 4 < r10 - v1 then
              f8_cut_J96 (f8_cut_L9 n) v1 v2 r10 44 σ11
            else
              f8_cut_J96 (f8_cut_L9 n) v1 v2 r10 42 σ11
        else
          z_bnd (f8_lettersEnd v1 σ3) fun r12 σ13 =>
          z_bnd (f8_wordOf v1 r12 σ13) fun r14 σ15 =>
          z_bnd (f8_put r14 0 v1 σ15) fun _ σ17 =>
          f8_cut_L9 n r12 (v2 + 1) σ17
      else
        f8_cut_J141 σ
    else
      f8_cut_J141 σ
def f8_cut (σ : z_M) : Option (Unit × z_M) :=
  z_let (z_set σ 96 5 0) fun σ1 =>
  f8_cut_L9 z_fu 0 0 σ1
def f9_clear (c0 : Nat) (σ : z_M) : Option (Unit × z_M) :=
  z_let (z_set σ c0 2 0) fun σ1 =>
  z_let (z_set σ1 c0 3 0) fun σ2 =>
  some ((), σ2)
def f3_read_J132 (σ : z_M) : Option (Int32 × z_M) :=
  if σ 101 2 = 0 then
    some (1, σ)
  else
    some (0, σ)
def f3_read_L63 : Nat → Int32 → Int32 → z_M → Option (Int32 × z_M)
  | 0, _, _, _ => none
  | n + 1, v1, v3, σ =>
    if σ 101 6 < v3 then
      f3_read_J132 σ
    else
      if σ 101 2 = 0 then
        z_bnd (f3_kind σ) fun r1 σ2 =>
        if r1 = 43 then
          f3_read_J132 σ2
        else
          if v1 = 0 then
            z_bnd (f3_readReason σ2) fun _ σ10 =>
            f3_read_L63 n v1 (v3 + 1) σ10
          else
            if v1 = 1 then
              z_bnd (f3_readLaw σ2) fun _ σ8 =>
              f3_read_L63 n v1 (v3 + 1) σ8
            else
              if v1 = 2 then
                z_bnd (f3_readWork σ2) fun _ σ6 =>
                f3_read_L63 n v1 (v3 + 1) σ6
              else
                z_bnd (f3_readPlan σ2) fun _ σ4 =>
                f3_read_L63 n v1 (v3 + 1) σ4
      else
        f3_read_J132 σ
def f3_read_J39 (v1 : Int32) (s1 : Int32) (σ : z_M) : Option (Int32 × z_M) :=
  z_let (z_set σ 101 6 s1) fun σ1 =>
  z_let (z_set σ1 101 4 0) fun σ2 =>
  z_bnd (f9_clear 102 σ2) fun _ σ4 =>
  z_bnd (f8_cut σ4) fun _ σ6 =>
  f3_read_L63 z_fu v1 0 σ6
def f3_read (p1 : Int32) (p2 : Int32) (σ : z_M) : Option (Int32 × z_M) :=
  z_let (z_set σ 101 2 0) fun σ1 =>
  z_let (z_set σ1 101 3 (-1)) fun σ2 =>
  if p1 < 0 then
    some (0, σ2)
  else
    if 3 < p1 then
      some (0, σ2)
    else
      z_let (z_set σ2 101 5 p2) fun σ3 =>
      if p1 = 2 then
        f3_read_J39 p1 12 σ3
      else
        f3_read_J39 p1 16 σ3
def f9_copyFrom (c0 : Nat) (c1 : Nat) (σ : z_M) : Option (Unit × z_M) :=
  z_chk (z_cok (S1.2.1 (c1 + 1)) 0 (S1.2.1 (c0 + 1)) 0 (z_min (Int32.ofNat (S1.2.1 (c0 + 1))) ((σ c1 2) * 5))) <|
  z_let (z_cpy σ (c1 + 1) 0 (c0 + 1) 0 (z_min (Int32.ofNat (S1.2.1 (c0 + 1))) ((σ c1 2) * 5))) fun σ2 =>
  z_chk (z_cok (S1.2.1 (c1 + 2)) 0 (S1.2.1 (c0 + 2)) 0 (z_min (Int32.ofNat (S1.2.1 (c0 + 2))) (σ2 c1 3))) <|
  z_let (z_cpy σ2 (c1 + 2) 0 (c0 + 2) 0 (z_min (Int32.ofNat (S1.2.1 (c0 + 2))) (σ2 c1 3))) fun σ4 =>
  z_let (z_set σ4 c0 2 (σ4 c1 2)) fun σ5 =>
  z_let (z_set σ5 c0 3 (σ5 c1 3)) fun σ6 =>
  some ((), σ6)
def f11_text_J46 (v1 : Int32) (σ : z_M) : Option (Int32 × z_M) :=
  z_bnd (f1_told 1 v1 σ) fun r1 σ2 =>
  z_bnd (f9_copyFrom r1 102 σ2) fun _ σ4 =>
  some (σ4 r1 2, σ4)
def f11_text_J39 (v1 : Int32) (σ : z_M) : Option (Int32 × z_M) :=
  z_bnd (f10_forget σ) fun _ σ2 =>
  f11_text_J46 v1 σ2
def f11_text (p1 : Int32) (σ : z_M) : Option (Int32 × z_M) :=
  z_bnd (f3_read p1 (σ 1 0) σ) fun r1 σ2 =>
  z_let (z_set σ2 96 1 0) fun σ3 =>
  if r1 = 0 then
    some ((-1), σ3)
  else
    if p1 = 0 then
      f11_text_J39 p1 σ3
    else
      if p1 = 3 then
        f11_text_J39 p1 σ3
      else
        f11_text_J46 p1 σ3
def f11_fault (p1 : Int32) (σ : z_M) : Option (Int32 × z_M) :=
  if p1 = 0 then
    some (σ 101 2, σ)
  else
    if p1 = 1 then
      some (σ 101 3, σ)
    else
      some ((-1), σ)
def f0_hasPot (c0 : Nat) (p1 : Int32) (σ : z_M) : Option (Int32 × z_M) :=
  z_chk (z_in p1 8) <|
  if σ (c0 + 2) (z_ix p1) = (-1) then
    some (0, σ)
  else
    some (1, σ)
def f0_copyFrom (c0 : Nat) (c1 : Nat) (σ : z_M) : Option (Unit × z_M) :=
  z_chk (z_cok 64 0 64 0 64) <|
  z_let (z_cpy σ (c1 + 1) 0 (c0 + 1) 0 64) fun σ2 =>
  z_chk (z_cok 8 0 8 0 8) <|
  z_let (z_cpy σ2 (c1 + 2) 0 (c0 + 2) 0 8) fun σ4 =>
  z_chk (z_cok 8 0 8 0 8) <|
  z_let (z_cpy σ4 (c1 + 3) 0 (c0 + 3) 0 8) fun σ6 =>
  z_chk (z_cok 8 0 8 0 8) <|
  z_let (z_cpy σ6 (c1 + 4) 0 (c0 + 4) 0 8) fun σ8 =>
  z_chk (z_cok 8 0 8 0 8) <|
  z_let (z_cpy σ8 (c1 + 5) 0 (c0 + 5) 0 8) fun σ10 =>
  z_let (z_set σ10 c0 5 (σ10 c1 5)) fun σ11 =>
  z_let (z_set σ11 c0 6 (σ11 c1 6)) fun σ12 =>
  z_let (z_set σ12 c0 7 (σ12 c1 7)) fun σ13 =>
  z_let (z_set σ13 c0 8 (σ13 c1 8)) fun σ14 =>
  some ((), σ14)
def f10_keep_J35 (s1 : Int32) (σ : z_M) : Option (Unit × z_M) :=
  z_let (z_set σ 58 1 s1) fun σ1 =>
  z_let (z_set σ1 58 2 (z_min 6 ((σ1 58 2) + 1))) fun σ2 =>
  some ((), σ2)
def f10_keep (c1 : Nat) (σ : z_M) : Option (Unit × z_M) :=
  z_chk (z_in (σ 58 1) 6) <|
  z_bnd (f0_copyFrom (60 + 6 * z_ix (σ 58 1)) c1 σ) fun _ σ3 =>
  if (σ3 58 1) + 1 < 6 then
    f10_keep_J35 ((σ3 58 1) + 1) σ3
  else
    f10_keep_J35 0 σ3
def f0_putPot (c0 : Nat) (p1 : Int32) (p2 : Int32) (p3 : Int32) (p4 : Int32) (σ : z_M) : Option (Unit × z_M) :=
  z_chk (z_in p1 8) <|
  z_let (z_set σ (c0 + 2) (z_ix p1) p2) fun σ2 =>
  z_chk (z_in p1 8) <|
  z_let (z_set σ2 (c0 + 3) (z_ix p1) p3) fun σ4 =>
  z_chk (z_in p1 8) <|
  z_let (z_set σ4 (c0 + 4) (z_ix p1) p4) fun σ6 =>
  z_chk (z_in p1 8) <|
  z_let (z_set σ6 (c0 + 5) (z_ix p1) 0) fun σ8 =>
  some ((), σ8)
def f7_write (c0 : Nat) (p1 : Int32) (p2 : Int32) (p3 : Int32) (σ : z_M) : Option (Unit × z_M) :=
  if σ c0 3 = 0 then
    some ((), σ)
  else
    if σ (z_sb c0) 8 < 150 then
      z_chk (z_in ((σ (z_sb c0) 8) * 4) 600) <|
      z_let (z_set σ 17 (z_ix ((σ (z_sb c0) 8) * 4)) (σ (z_sb c0) 6)) fun σ2 =>
      z_chk (z_in (((σ (z_sb c0) 8) * 4) + 1) 600) <|
      z_let (z_set σ2 17 (z_ix (((σ (z_sb c0) 8) * 4) + 1)) p1) fun σ4 =>
      z_chk (z_in (((σ (z_sb c0) 8) * 4) + 2) 600) <|
      z_let (z_set σ4 17 (z_ix (((σ (z_sb c0) 8) * 4) + 2)) p2) fun σ6 =>
      z_chk (z_in (((σ (z_sb c0) 8) * 4) + 3) 600) <|
      z_let (z_set σ6 17 (z_ix (((σ (z_sb c0) 8) * 4) + 3)) p3) fun σ8 =>
      z_let (z_set σ8 (z_sb c0) 8 ((σ8 (z_sb c0) 8) + 1)) fun σ9 =>
      some ((), σ9)
    else
      some ((), σ)
def f7_plant (c0 : Nat) (p1 : Int32) (p2 : Int32) (p3 : Int32) (σ : z_M) : Option (Unit × z_M) :=
  z_bnd (f0_putPot (z_sb c0) p1 p2 10 p3 σ) fun _ σ2 =>
  z_bnd (f7_write c0 0 p1 p2 σ2) fun _ σ4 =>
  some ((), σ4)
def f11_pot (p1 : Int32) (p2 : Int32) (p3 : Int32) (σ : z_M) : Option (Int32 × z_M) :=
  z_bnd (f11_isHouse p1 σ) fun r1 σ2 =>
  if r1 = 0 then
    some (0, σ2)
  else
    z_bnd (f11_isThing p2 σ2) fun r3 σ4 =>
    if r3 = 0 then
      some (0, σ4)
    else
      if p3 < 0 then
        some (0, σ4)
      else
        if 9 < p3 then
          some (0, σ4)
        else
          z_bnd (f0_hasPot 18 p1 σ4) fun r5 σ6 =>
          if r5 = 0 then
            z_bnd (f10_keep 18 σ6) fun _ σ8 =>
            z_bnd (f7_plant 50 p1 p2 p3 σ8) fun _ σ10 =>
            some (1, σ10)
          else
            some (0, σ6)
def f7_pour (c0 : Nat) (p1 : Int32) (p2 : Int32) (σ : z_M) : Option (Unit × z_M) :=
  z_chk (z_in p1 8) <|
  z_chk (z_in p1 8) <|
  z_let (z_set σ ((z_sb c0) + 5) (z_ix p1) (z_min 99 ((σ ((z_sb c0) + 5) (z_ix p1)) + p2))) fun σ3 =>
  some ((), σ3)
def f11_water (p1 : Int32) (p2 : Int32) (σ : z_M) : Option (Int32 × z_M) :=
  z_bnd (f11_isHouse p1 σ) fun r1 σ2 =>
  if r1 = 0 then
    some (0, σ2)
  else
    if p2 < 1 then
      some (0, σ2)
    else
      if 99 < p2 then
        some (0, σ2)
      else
        z_bnd (f0_hasPot 18 p1 σ2) fun r3 σ4 =>
        if r3 = 0 then
          some (0, σ4)
        else
          z_bnd (f10_keep 18 σ4) fun _ σ6 =>
          z_bnd (f7_pour 50 p1 p2 σ6) fun _ σ8 =>
          some (1, σ8)
def f0_clearPot (c0 : Nat) (p1 : Int32) (σ : z_M) : Option (Unit × z_M) :=
  z_bnd (f0_putPot c0 p1 (-1) 0 (-1) σ) fun _ σ2 =>
  some ((), σ2)
def f7_lose (c0 : Nat) (p1 : Int32) (p2 : Int32) (σ : z_M) : Option (Unit × z_M) :=
  z_chk (z_in p1 8) <|
  z_bnd (f7_write c0 p2 p1 (σ ((z_sb c0) + 2) (z_ix p1)) σ) fun _ σ3 =>
  z_bnd (f0_clearPot (z_sb c0) p1 σ3) fun _ σ5 =>
  some ((), σ5)
def f11_weed (p1 : Int32) (σ : z_M) : Option (Int32 × z_M) :=
  z_bnd (f11_isHouse p1 σ) fun r1 σ2 =>
  if r1 = 0 then
    some (0, σ2)
  else
    z_bnd (f0_hasPot 18 p1 σ2) fun r3 σ4 =>
    if r3 = 0 then
      some (0, σ4)
    else
      z_bnd (f10_keep 18 σ4) fun _ σ6 =>
      z_bnd (f7_lose 50 p1 1 σ6) fun _ σ8 =>
      some (1, σ8)
def f0_believe (c0 : Nat) (p1 : Int32) (p2 : Int32) (p3 : Int32) (σ : z_M) : Option (Unit × z_M) :=
  z_chk (z_in ((p1 * 8) + p2) 64) <|
  z_let (z_set σ (c0 + 1) (z_ix ((p1 * 8) + p2)) (z_max 0 (z_min 100 p3))) fun σ2 =>
  some ((), σ2)
def f11_tell (p1 : Int32) (p2 : Int32) (p3 : Int32) (σ : z_M) : Option (Int32 × z_M) :=
  z_bnd (f11_isHouse p1 σ) fun r1 σ2 =>
  if r1 = 0 then
    some (0, σ2)
  else
    z_bnd (f11_isThing p2 σ2) fun r3 σ4 =>
    if r3 = 0 then
      some (0, σ4)
    else
      if p3 < 0 then
        some (0, σ4)
      else
        if 100 < p3 then
          some (0, σ4)
        else
          z_bnd (f10_keep 18 σ4) fun _ σ6 =>
          z_bnd (f0_believe 18 p1 p2 p3 σ6) fun _ σ8 =>
          some (1, σ8)
def fj6_bitCount (p0 : Int32) (σ : z_M) : Option (Int32 × z_M) :=
  z_let (p0 - ((z_ushr p0 1) &&& 1431655765)) fun x1 =>
  z_let ((x1 &&& 858993459) + ((z_ushr x1 2) &&& 858993459)) fun x2 =>
  z_let (((x2 + (z_ushr x2 4)) &&& 252645135) + (z_ushr ((x2 + (z_ushr x2 4)) &&& 252645135) 8)) fun x3 =>
  some ((x3 + (z_ushr x3 16)) &&& 63, σ)
def f0_sureOf_L4 : Nat → Nat → Int32 → Int32 → Int32 → z_M → Option (Int32 × z_M)
  | 0, _, _, _, _, _ => none
  | n + 1, c0, v1, v2, v3, σ =>
    if v3 < 8 then
      z_chk (z_in ((v1 * 8) + v3) 64) <|
      if σ (c0 + 1) (z_ix ((v1 * 8) + v3)) < 90 then
        f0_sureOf_L4 n c0 v1 v2 (v3 + 1) σ
      else
        f0_sureOf_L4 n c0 v1 (v2 ||| (z_shl 1 v3)) (v3 + 1) σ
    else
      some (v2, σ)
def f0_sureOf (c0 : Nat) (p1 : Int32) (σ : z_M) : Option (Int32 × z_M) :=
  f0_sureOf_L4 z_fu c0 p1 0 0 σ
def f0_sures (c0 : Nat) (p1 : Int32) (σ : z_M) : Option (Int32 × z_M) :=
  z_bnd (f0_sureOf c0 p1 σ) fun r1 σ2 =>
  z_bnd (fj6_bitCount r1 σ2) fun r3 σ4 =>
  some (r3, σ4)
def f0_degreeOf (c0 : Nat) (p1 : Int32) (p2 : Int32) (σ : z_M) : Option (Int32 × z_M) :=
  z_chk (z_in ((p1 * 8) + p2) 64) <|
  some (σ (c0 + 1) (z_ix ((p1 * 8) + p2)), σ)
def f5_observe_J68 (c1 : Nat) (c2 : Nat) (v3 : Int32) (v4 : Int32) (v5 : Int32) (s1 : Int32) (s2 : Int32) (σ : z_M) : Option (Unit × z_M) :=
  z_chk (z_in s1 8) <|
  z_let (z_set σ 48 (z_ix s1) s2) fun σ2 =>
  z_chk (z_in 4 8) <|
  z_let (z_set σ2 48 (z_ix 4) v5) fun σ4 =>
  z_chk (z_in 5 8) <|
  z_let (z_set σ4 48 (z_ix 5) (σ4 c2 6)) fun σ6 =>
  z_chk (z_in 6 8) <|
  z_let (z_set σ6 48 (z_ix 6) v4) fun σ8 =>
  z_chk (z_in v3 8) <|
  z_bnd (fj6_bitCount (σ8 (c1 + 2) (z_ix v3)) σ8) fun r10 σ11 =>
  z_chk (z_in 7 8) <|
  z_let (z_set σ11 48 (z_ix 7) r10) fun σ13 =>
  some ((), σ13)
def f5_observe (c1 : Nat) (c2 : Nat) (p3 : Int32) (p4 : Int32) (σ : z_M) : Option (Unit × z_M) :=
  z_chk (z_in p3 8) <|
  z_chk (z_in p3 8) <|
  z_chk (z_in 0 8) <|
  z_let (z_set σ 48 (z_ix 0) (σ (c2 + 3) (z_ix p3))) fun σ4 =>
  z_chk (z_in p3 8) <|
  z_chk (z_in 1 8) <|
  z_let (z_set σ4 48 (z_ix 1) (σ4 (c2 + 4) (z_ix p3))) fun σ7 =>
  z_chk (z_in p3 8) <|
  z_chk (z_in 2 8) <|
  z_let (z_set σ7 48 (z_ix 2) (σ7 (c2 + 5) (z_ix p3))) fun σ10 =>
  z_bnd (f11_isThing (σ (c2 + 2) (z_ix p3)) σ10) fun r11 σ12 =>
  if r11 = 0 then
    f5_observe_J68 c1 c2 p3 p4 (σ (c2 + 2) (z_ix p3)) 3 0 σ12
  else
    z_bnd (f0_degreeOf c2 p3 (σ (c2 + 2) (z_ix p3)) σ12) fun r13 σ14 =>
    f5_observe_J68 c1 c2 p3 p4 (σ (c2 + 2) (z_ix p3)) 3 r13 σ14
def f5_joined (p0 : Int32) (p1 : Int32) (p2 : Int32) (σ : z_M) : Option (Int32 × z_M) :=
  if p0 = 13 then
    some (p1 &&& p2, σ)
  else
  if p0 = 33 then
    some (p1 + p2, σ)
  else
  if p0 = 34 then
    some (p1 - p2, σ)
  else
  if p0 = 35 then
    some (p1 * p2, σ)
  else
  if p0 = 36 then
    if p2 = 0 then
      some (0, σ)
    else
      z_chk (!decide (p2 = 0)) <|
      some (p1 / p2, σ)
  else
  if p0 = 39 then
    if p1 < p2 then
      some (1, σ)
    else
      some (0, σ)
  else
  if p0 = 40 then
    if p1 = p2 then
      some (1, σ)
    else
      some (0, σ)
  else
  if p0 = 41 then
    if p2 < p1 then
      some (1, σ)
    else
      some (0, σ)
  else
  some (p1 ||| p2, σ)
def f5_worthOf_J124 (k6 : Nat → Int32 → Int32 → Int32 → z_M → Option (Int32 × z_M)) (c1 : Nat) (v3 : Int32) (v4 : Int32) (v5 : Int32) (v6 : Int32) (σ : z_M) : Option (Int32 × z_M) :=
  if 1 < v4 then
    z_chk (z_in ((v4 + (-1)) - 1) 32) <|
    z_chk (z_in (v4 + (-1)) 32) <|
    z_bnd (f5_joined v6 (σ 49 (z_ix ((v4 + (-1)) - 1))) (σ 49 (z_ix (v4 + (-1)))) σ) fun r3 σ4 =>
    z_chk (z_in ((v4 + (-1)) - 1) 32) <|
    z_let (z_set σ4 49 (z_ix ((v4 + (-1)) - 1)) r3) fun σ6 =>
    k6 c1 v3 (v4 + (-1)) (v5 + 1) σ6
  else
    k6 c1 v3 v4 (v5 + 1) σ
def f5_worthOf_J82 (k6 : Nat → Int32 → Int32 → Int32 → z_M → Option (Int32 × z_M)) (c1 : Nat) (v3 : Int32) (v4 : Int32) (v5 : Int32) (s1 : Int32) (s2 : Int32) (σ : z_M) : Option (Int32 × z_M) :=
  z_chk (z_in s1 32) <|
  z_let (z_set σ 49 (z_ix s1) s2) fun σ2 =>
  k6 c1 v3 (v4 + 1) (v5 + 1) σ2
def f5_worthOf_J44 (k6 : Nat → Int32 → Int32 → Int32 → z_M → Option (Int32 × z_M)) (c1 : Nat) (v3 : Int32) (v4 : Int32) (v5 : Int32) (v6 : Int32) (σ : z_M) : Option (Int32 × z_M) :=
  if v4 < 32 then
    if v6 < 64 then
      z_chk (z_in v6 8) <|
      f5_worthOf_J82 k6 c1 v3 v4 v5 v4 (σ 48 (z_ix v6)) σ
    else
      f5_worthOf_J82 k6 c1 v3 v4 v5 v4 (v6 - 64) σ
  else
    k6 c1 v3 v4 (v5 + 1) σ
def f5_worthOf_J169 (σ : z_M) : Option (Int32 × z_M) :=
  z_chk (z_in 0 32) <|
  some (σ 49 (z_ix 0), σ)
def f5_worthOf_L6 : Nat → Nat → Int32 → Int32 → Int32 → z_M → Option (Int32 × z_M)
  | 0, _, _, _, _, _ => none
  | n + 1, c1, v3, v4, v5, σ =>
    if v5 < v3 then
      if v5 < σ c1 3 then
        z_chk (z_in v5 (S1.2.1 (c1 + 2))) <|
        if σ (c1 + 2) (z_ix v5) < 64 then
          if 7 < σ (c1 + 2) (z_ix v5) then
            if σ (c1 + 2) (z_ix v5) = 14 then
              if 0 < v4 then
                z_chk (z_in (v4 - 1) 32) <|
                z_chk (z_in (v4 - 1) 32) <|
                z_let (z_set σ 49 (z_ix (v4 - 1)) (1 - (σ 49 (z_ix (v4 - 1))))) fun σ4 =>
                f5_worthOf_L6 n c1 v3 v4 (v5 + 1) σ4
              else
                f5_worthOf_J124 (f5_worthOf_L6 n) c1 v3 v4 v5 (σ (c1 + 2) (z_ix v5)) σ
            else
              f5_worthOf_J124 (f5_worthOf_L6 n) c1 v3 v4 v5 (σ (c1 + 2) (z_ix v5)) σ
          else
            f5_worthOf_J44 (f5_worthOf_L6 n) c1 v3 v4 v5 (σ (c1 + 2) (z_ix v5)) σ
        else
          f5_worthOf_J44 (f5_worthOf_L6 n) c1 v3 v4 v5 (σ (c1 + 2) (z_ix v5)) σ
      else
        f5_worthOf_J169 σ
    else
      f5_worthOf_J169 σ
def f5_worthOf (c1 : Nat) (p2 : Int32) (p3 : Int32) (σ : z_M) : Option (Int32 × z_M) :=
  f5_worthOf_L6 z_fu c1 p3 0 p2 σ
def f9_at (c0 : Nat) (p1 : Int32) (p2 : Int32) (σ : z_M) : Option (Int32 × z_M) :=
  z_chk (z_in ((p1 * 5) + p2) (S1.2.1 (c0 + 1))) <|
  some (σ (c0 + 1) (z_ix ((p1 * 5) + p2)), σ)
def f5_told_J88 (v4 : Int32) (v5 : Int32) (v6 : Int32) (σ : z_M) : Option (Int32 × z_M) :=
  some (z_max v4 (z_min v5 v6), σ)
def f5_told_J63 (c1 : Nat) (v4 : Int32) (v5 : Int32) (v7 : Int32) (v8 : Int32) (σ : z_M) : Option (Int32 × z_M) :=
  z_bnd (f9_at c1 v7 1 σ) fun r1 σ2 =>
  z_bnd (f5_worthOf c1 r1 v8 σ2) fun r3 σ4 =>
  f5_told_J88 v4 v5 r3 σ4
def f5_told_L6 : Nat → Nat → Int32 → Int32 → Int32 → Int32 → Int32 → z_M → Option (Int32 × z_M)
  | 0, _, _, _, _, _, _, _ => none
  | n + 1, c1, v2, v4, v5, v6, v7, σ =>
    if v7 < σ c1 2 then
      z_bnd (f9_at c1 v7 2 σ) fun r1 σ2 =>
      z_bnd (f9_at c1 v7 3 σ2) fun r3 σ4 =>
      z_bnd (f9_at c1 v7 0 σ4) fun r5 σ6 =>
      if r5 = v2 then
        if r1 = r3 then
          f5_told_J63 c1 v4 v5 v7 r1 σ6
        else
          z_bnd (f5_worthOf c1 r1 r3 σ6) fun r7 σ8 =>
          if r7 = 0 then
            f5_told_L6 n c1 v2 v4 v5 v6 (v7 + 1) σ8
          else
            f5_told_J63 c1 v4 v5 v7 r1 σ8
      else
        f5_told_L6 n c1 v2 v4 v5 v6 (v7 + 1) σ6
    else
      f5_told_J88 v4 v5 v6 σ
def f5_told (c1 : Nat) (p2 : Int32) (p3 : Int32) (p4 : Int32) (p5 : Int32) (σ : z_M) : Option (Int32 × z_M) :=
  f5_told_L6 z_fu c1 p2 p4 p5 p3 0 σ
def f5_seeds (c1 : Nat) (σ : z_M) : Option (Int32 × z_M) :=
  z_bnd (f5_told c1 10 10 0 99 σ) fun r1 σ2 =>
  some (r1, σ2)
def f7_carry_J40 (c0 : Nat) (v1 : Int32) (v2 : Int32) (σ : z_M) : Option (Unit × z_M) :=
  z_bnd (f0_sures (z_sb c0) v1 σ) fun r1 σ2 =>
  z_bnd (f5_observe 1 (z_sb c0) v1 r1 σ2) fun _ σ4 =>
  z_bnd (f5_seeds 7 σ4) fun r5 σ6 =>
  if 0 < r5 then
    z_chk (z_in v1 8) <|
    z_chk (z_in v1 8) <|
    z_bnd (f0_putPot (z_sb c0) v2 (σ6 ((z_sb c0) + 2) (z_ix v1)) r5 (σ6 ((z_sb c0) + 4) (z_ix v1)) σ6) fun _ σ10 =>
    z_chk (z_in v1 8) <|
    z_bnd (f7_write c0 4 v2 (σ10 ((z_sb c0) + 2) (z_ix v1)) σ10) fun _ σ13 =>
    some ((), σ13)
  else
    some ((), σ6)
def f7_carry_L2 : Nat → Nat → Int32 → Int32 → z_M → Option (Unit × z_M)
  | 0, _, _, _, _ => none
  | n + 1, c0, v1, v2, σ =>
    if v2 < σ 1 0 then
      z_chk (z_in v1 8) <|
      if (z_shr (σ 3 (z_ix v1)) v2) &&& 1 = 0 then
        f7_carry_L2 n c0 v1 (v2 + 1) σ
      else
        z_bnd (f0_hasPot (z_sb c0) v2 σ) fun r2 σ3 =>
        if r2 = 0 then
          f7_carry_J40 c0 v1 v2 σ3
        else
          f7_carry_L2 n c0 v1 (v2 + 1) σ3
    else
      some ((), σ)
def f7_carry (c0 : Nat) (p1 : Int32) (σ : z_M) : Option (Unit × z_M) :=
  f7_carry_L2 z_fu c0 p1 0 σ
def f7_draw (c0 : Nat) (p1 : Int32) (σ : z_M) : Option (Int32 × z_M) :=
  z_let (z_set σ (z_sb c0) 5 ((1664525 * (σ (z_sb c0) 5)) + 1013904223)) fun σ1 =>
  if 0 < p1 then
    z_chk (!decide (p1 = 0)) <|
    some (z_rem (z_ushr (σ1 (z_sb c0) 5) 8) p1, σ1)
  else
    some (0, σ1)
def f7_fly_L43 : Nat → Nat → Int32 → Int32 → z_M → Option (Unit × z_M)
  | 0, _, _, _, _ => none
  | n + 1, c0, v1, v2, σ =>
    if v2 < σ 1 0 then
      if (z_shr v1 v2) &&& 1 = 0 then
        f7_fly_L43 n c0 v1 (v2 + 1) σ
      else
        z_bnd (f7_draw c0 1000 σ) fun r1 σ2 =>
        if r1 < σ2 1 3 then
          z_bnd (f7_carry c0 v2 σ2) fun _ σ4 =>
          f7_fly_L43 n c0 v1 (v2 + 1) σ4
        else
          f7_fly_L43 n c0 v1 (v2 + 1) σ2
    else
      some ((), σ)
def f7_fly_J41 (c0 : Nat) (v1 : Int32) (σ : z_M) : Option (Unit × z_M) :=
  f7_fly_L43 z_fu c0 v1 0 σ
def f7_fly_L4 : Nat → Nat → Int32 → Int32 → z_M → Option (Unit × z_M)
  | 0, _, _, _, _ => none
  | n + 1, c0, v1, v2, σ =>
    if v2 < σ 1 0 then
      z_chk (z_in v2 8) <|
      if σ ((z_sb c0) + 3) (z_ix v2) < 50 then
        f7_fly_L4 n c0 v1 (v2 + 1) σ
      else
        f7_fly_L4 n c0 (v1 ||| (z_shl 1 v2)) (v2 + 1) σ
    else
      f7_fly_J41 c0 v1 σ
def f7_fly (c0 : Nat) (σ : z_M) : Option (Unit × z_M) :=
  f7_fly_L4 z_fu c0 0 0 σ
def f7_follow_J128 (c0 : Nat) (v2 : Int32) (v3 : Int32) (v6 : Int32) (σ : z_M) : Option (Unit × z_M) :=
  if v2 = 25 then
    if v6 = 0 then
      some ((), σ)
    else
      z_bnd (f7_lose c0 v3 1 σ) fun _ σ2 =>
      some ((), σ2)
  else
    some ((), σ)
def f7_follow_J108 (c0 : Nat) (v2 : Int32) (v3 : Int32) (v4 : Int32) (v6 : Int32) (σ : z_M) : Option (Unit × z_M) :=
  if v2 = 2 then
    if v6 = 0 then
      f7_follow_J128 c0 v2 v3 v6 σ
    else
      z_bnd (f7_pour c0 v3 v4 σ) fun _ σ2 =>
      some ((), σ2)
  else
    f7_follow_J128 c0 v2 v3 v6 σ
def f7_follow (c0 : Nat) (p1 : Int32) (σ : z_M) : Option (Unit × z_M) :=
  z_bnd (f9_at 13 p1 1 σ) fun r1 σ2 =>
  z_bnd (f9_at 13 p1 2 σ2) fun r3 σ4 =>
  z_bnd (f9_at 13 p1 3 σ4) fun r5 σ6 =>
  z_bnd (f9_at 13 p1 4 σ6) fun r7 σ8 =>
  z_bnd (f0_hasPot (z_sb c0) r3 σ8) fun r9 σ10 =>
  if r1 = 26 then
    z_bnd (f0_believe (z_sb c0) r3 r5 r7 σ10) fun _ σ14 =>
    some ((), σ14)
  else
    if r1 = 22 then
      if r9 = 0 then
        z_bnd (f7_plant c0 r3 r5 r7 σ10) fun _ σ12 =>
        some ((), σ12)
      else
        f7_follow_J108 c0 r1 r3 r5 r9 σ10
    else
      f7_follow_J108 c0 r1 r3 r5 r9 σ10
def f7_freeze_L20 : Nat → Nat → Int32 → z_M → Option (Unit × z_M)
  | 0, _, _, _ => none
  | n + 1, c0, v1, σ =>
    if v1 < σ 1 0 then
      z_bnd (f0_hasPot (z_sb c0) v1 σ) fun r1 σ2 =>
      if r1 = 0 then
        f7_freeze_L20 n c0 (v1 + 1) σ2
      else
        z_bnd (f7_draw c0 10 σ2) fun r3 σ4 =>
        z_chk (z_in v1 8) <|
        if r3 < σ4 ((z_sb c0) + 4) (z_ix v1) then
          z_bnd (f7_lose c0 v1 3 σ4) fun _ σ7 =>
          f7_freeze_L20 n c0 (v1 + 1) σ7
        else
          f7_freeze_L20 n c0 (v1 + 1) σ4
    else
      some ((), σ)
def f7_freeze (c0 : Nat) (σ : z_M) : Option (Unit × z_M) :=
  z_bnd (f7_draw c0 1000 σ) fun r1 σ2 =>
  if r1 < σ2 1 2 then
    f7_freeze_L20 z_fu c0 0 σ2
  else
    some ((), σ2)
def f5_grows (c1 : Nat) (σ : z_M) : Option (Int32 × z_M) :=
  z_chk (z_in 2 8) <|
  z_bnd (f5_told c1 8 ((σ 48 (z_ix 2)) - 5) (-99) 99 σ) fun r2 σ3 =>
  some (r2, σ3)
def f5_lowers (c1 : Nat) (σ : z_M) : Option (Int32 × z_M) :=
  z_chk (z_in 0 8) <|
  z_bnd (f5_told c1 9 ((σ 48 (z_ix 0)) / 10) 0 100 σ) fun r2 σ3 =>
  some (r2, σ3)
def f7_growPot (c0 : Nat) (p1 : Int32) (p2 : Int32) (σ : z_M) : Option (Unit × z_M) :=
  z_chk (z_in p1 8) <|
  z_bnd (f5_observe 1 (z_sb c0) p1 p2 σ) fun _ σ3 =>
  z_bnd (f5_lowers 7 σ3) fun r4 σ5 =>
  z_chk (z_in p1 8) <|
  z_bnd (f5_grows 7 σ5) fun r7 σ8 =>
  z_let ((σ5 ((z_sb c0) + 3) (z_ix p1)) + r7) fun x9 =>
  z_bnd (f0_degreeOf (z_sb c0) p1 (σ ((z_sb c0) + 2) (z_ix p1)) σ8) fun r10 σ11 =>
  z_bnd (f0_believe (z_sb c0) p1 (σ ((z_sb c0) + 2) (z_ix p1)) (r10 - r4) σ11) fun _ σ13 =>
  z_chk (z_in p1 8) <|
  z_let (z_set σ13 ((z_sb c0) + 3) (z_ix p1) (z_min 99 x9)) fun σ15 =>
  z_chk (z_in p1 8) <|
  z_let (z_set σ15 ((z_sb c0) + 5) (z_ix p1) 0) fun σ17 =>
  if x9 < 1 then
    z_bnd (f7_lose c0 p1 2 σ17) fun _ σ19 =>
    some ((), σ19)
  else
    some ((), σ17)
def f7_inspect_J51 (c0 : Nat) (v1 : Int32) (σ : z_M) : Option (Int32 × z_M) :=
  z_let (z_set σ (z_sb c0) 7 ((σ (z_sb c0) 7) + v1)) fun σ1 =>
  some (v1, σ1)
def f7_inspect_L4 : Nat → Nat → Int32 → Int32 → z_M → Option (Int32 × z_M)
  | 0, _, _, _, _ => none
  | n + 1, c0, v1, v2, σ =>
    if v2 < σ 1 0 then
      z_bnd (f0_sures (z_sb c0) v2 σ) fun r1 σ2 =>
      if σ2 1 1 < r1 then
        z_bnd (f7_write c0 5 v2 r1 σ2) fun _ σ4 =>
        f7_inspect_L4 n c0 (v1 + 1) (v2 + 1) σ4
      else
        f7_inspect_L4 n c0 v1 (v2 + 1) σ2
    else
      f7_inspect_J51 c0 v1 σ
def f7_inspect (c0 : Nat) (σ : z_M) : Option (Int32 × z_M) :=
  f7_inspect_L4 z_fu c0 0 0 σ
def f7_reasonOut_L11 : Nat → Nat → Int32 → Int32 → Int32 → z_M → Option (Unit × z_M)
  | 0, _, _, _, _, _ => none
  | n + 1, c0, v1, v2, v3, σ =>
    if v3 < σ 4 2 then
      z_bnd (f9_at 4 v3 0 σ) fun r1 σ2 =>
      z_bnd (f9_at 4 v3 1 σ2) fun r3 σ4 =>
      z_bnd (f9_at 4 v3 2 σ4) fun r5 σ6 =>
      if 0 < r5 then
        if r3 &&& (v2 ^^^ (-1)) = 0 then
          z_bnd (f0_degreeOf (z_sb c0) v1 r1 σ6) fun r7 σ8 =>
          z_bnd (f0_believe (z_sb c0) v1 r1 (r7 + r5) σ8) fun _ σ10 =>
          z_bnd (f0_sureOf (z_sb c0) v1 σ10) fun r11 σ12 =>
          f7_reasonOut_L11 n c0 v1 r11 (v3 + 1) σ12
        else
          f7_reasonOut_L11 n c0 v1 v2 (v3 + 1) σ6
      else
        f7_reasonOut_L11 n c0 v1 v2 (v3 + 1) σ6
    else
      some ((), σ)
def f7_reasonOut (c0 : Nat) (p1 : Int32) (σ : z_M) : Option (Unit × z_M) :=
  z_bnd (f0_sureOf (z_sb c0) p1 σ) fun r1 σ2 =>
  f7_reasonOut_L11 z_fu c0 p1 r1 0 σ2
def f7_pass_J158 (c0 : Nat) (σ : z_M) : Option (Int32 × z_M) :=
  z_bnd (f7_inspect c0 σ) fun r1 σ2 =>
  z_let (z_set σ2 (z_sb c0) 6 ((σ2 (z_sb c0) 6) + 1)) fun σ3 =>
  some (r1, σ3)
def f7_pass_J137 (c0 : Nat) (σ : z_M) : Option (Int32 × z_M) :=
  if σ c0 3 = 0 then
    f7_pass_J158 c0 σ
  else
    if 0 < σ 1 3 then
      z_bnd (f7_fly c0 σ) fun _ σ2 =>
      f7_pass_J158 c0 σ2
    else
      f7_pass_J158 c0 σ
def f7_pass_J116 (c0 : Nat) (σ : z_M) : Option (Int32 × z_M) :=
  if σ c0 3 = 0 then
    f7_pass_J137 c0 σ
  else
    if 0 < σ 1 2 then
      z_bnd (f7_freeze c0 σ) fun _ σ2 =>
      f7_pass_J137 c0 σ2
    else
      f7_pass_J137 c0 σ
def f7_pass_L75 : Nat → Nat → Int32 → z_M → Option (Int32 × z_M)
  | 0, _, _, _ => none
  | n + 1, c0, v1, σ =>
    if v1 < σ 1 0 then
      z_bnd (f0_hasPot (z_sb c0) v1 σ) fun r1 σ2 =>
      if r1 = 0 then
        f7_pass_L75 n c0 (v1 + 1) σ2
      else
        z_bnd (f0_sures (z_sb c0) v1 σ2) fun r3 σ4 =>
        z_bnd (f7_growPot c0 v1 r3 σ4) fun _ σ6 =>
        f7_pass_L75 n c0 (v1 + 1) σ6
    else
      f7_pass_J116 c0 σ
def f7_pass_J73 (c0 : Nat) (σ : z_M) : Option (Int32 × z_M) :=
  f7_pass_L75 z_fu c0 0 σ
def f7_pass_L51 : Nat → Nat → Int32 → z_M → Option (Int32 × z_M)
  | 0, _, _, _ => none
  | n + 1, c0, v1, σ =>
    if v1 < σ 1 0 then
      z_bnd (f7_reasonOut c0 v1 σ) fun _ σ2 =>
      f7_pass_L51 n c0 (v1 + 1) σ2
    else
      f7_pass_J73 c0 σ
def f7_pass_J49 (c0 : Nat) (σ : z_M) : Option (Int32 × z_M) :=
  f7_pass_L51 z_fu c0 0 σ
def f7_pass_L2 : Nat → Nat → Int32 → z_M → Option (Int32 × z_M)
  | 0, _, _, _ => none
  | n + 1, c0, v1, σ =>
    if v1 < σ 13 2 then
      z_bnd (f9_at 13 v1 0 σ) fun r1 σ2 =>
      if r1 = σ2 (z_sb c0) 6 then
        z_bnd (f7_follow c0 v1 σ2) fun _ σ4 =>
        f7_pass_L2 n c0 (v1 + 1) σ4
      else
        f7_pass_L2 n c0 (v1 + 1) σ2
    else
      f7_pass_J49 c0 σ
def f7_pass (c0 : Nat) (σ : z_M) : Option (Int32 × z_M) :=
  f7_pass_L2 z_fu c0 0 σ
def f11_weeks_L35 : Nat → Int32 → Int32 → Int32 → z_M → Option (Int32 × z_M)
  | 0, _, _, _, _ => none
  | n + 1, v1, v2, v3, σ =>
    if v3 < v1 then
      z_bnd (f10_keep 18 σ) fun _ σ2 =>
      z_bnd (f7_pass 50 σ2) fun r3 σ4 =>
      f11_weeks_L35 n v1 (v2 + r3) (v3 + 1) σ4
    else
      some (v2, σ)
def f11_weeks (p1 : Int32) (σ : z_M) : Option (Int32 × z_M) :=
  if p1 < 1 then
    some ((-1), σ)
  else
    if 60 < p1 then
      some ((-1), σ)
    else
      if 999 < (σ 18 6) + p1 then
        some ((-1), σ)
      else
        f11_weeks_L35 z_fu p1 0 0 σ
def f11_lawOf (p1 : Int32) (p2 : Int32) (σ : z_M) : Option (Int32 × z_M) :=
  z_bnd (f0_hasPot 18 p1 σ) fun r1 σ2 =>
  if r1 = 0 then
    some ((-100), σ2)
  else
    z_bnd (f0_sures 18 p1 σ2) fun r3 σ4 =>
    z_bnd (f5_observe 1 18 p1 r3 σ4) fun _ σ6 =>
    if p2 = 6 then
      z_bnd (f5_grows 7 σ6) fun r11 σ12 =>
      some (r11, σ12)
    else
      if p2 = 7 then
        z_bnd (f5_lowers 7 σ6) fun r9 σ10 =>
        some (r9, σ10)
      else
        z_bnd (f5_seeds 7 σ6) fun r7 σ8 =>
        some (r7, σ8)
def f11_of (p1 : Int32) (p2 : Int32) (σ : z_M) : Option (Int32 × z_M) :=
  z_bnd (f11_isHouse p1 σ) fun r1 σ2 =>
  if r1 = 0 then
    some ((-1000), σ2)
  else
    if p2 = 0 then
      z_chk (z_in p1 8) <|
      some (σ2 20 (z_ix p1), σ2)
    else
    if p2 = 1 then
      z_chk (z_in p1 8) <|
      some (σ2 21 (z_ix p1), σ2)
    else
    if p2 = 2 then
      z_chk (z_in p1 8) <|
      some (σ2 22 (z_ix p1), σ2)
    else
    if p2 = 3 then
      z_chk (z_in p1 8) <|
      some (σ2 23 (z_ix p1), σ2)
    else
    if p2 = 4 then
      z_bnd (f0_sureOf 18 p1 σ2) fun r7 σ8 =>
      some (r7, σ8)
    else
    if p2 = 5 then
      z_chk (z_in p1 8) <|
      some (σ2 3 (z_ix p1), σ2)
    else
    if p2 = 6 then
      z_bnd (f11_lawOf p1 p2 σ2) fun r10 σ11 =>
      some (r10, σ11)
    else
    if p2 = 7 then
      z_bnd (f11_lawOf p1 p2 σ2) fun r12 σ13 =>
      some (r12, σ13)
    else
    if p2 = 8 then
      z_bnd (f11_lawOf p1 p2 σ2) fun r14 σ15 =>
      some (r14, σ15)
    else
    z_bnd (f11_isThing (p2 - 10) σ2) fun r16 σ17 =>
    if r16 = 0 then
      some ((-1000), σ17)
    else
      z_bnd (f0_degreeOf 18 p1 (p2 - 10) σ17) fun r18 σ19 =>
      some (r18, σ19)
def f11_reason (p1 : Int32) (p2 : Int32) (σ : z_M) : Option (Int32 × z_M) :=
  if p1 < 0 then
    some ((-1), σ)
  else
    if p1 < σ 4 2 then
      if p2 < 0 then
        some ((-1), σ)
      else
        if 2 < p2 then
          some ((-1), σ)
        else
          z_bnd (f9_at 4 p1 p2 σ) fun r1 σ2 =>
          some (r1, σ2)
    else
      some ((-1), σ)
def f11_book (p1 : Int32) (p2 : Int32) (σ : z_M) : Option (Int32 × z_M) :=
  if p1 < 0 then
    some ((-1), σ)
  else
    if p1 < σ 18 8 then
      if p2 < 0 then
        some ((-1), σ)
      else
        if p2 < 4 then
          z_chk (z_in ((p1 * 4) + p2) 600) <|
          some (σ 17 (z_ix ((p1 * 4) + p2)), σ)
        else
          some ((-1), σ)
    else
      some ((-1), σ)
def f7_fallAsleep (c0 : Nat) (σ : z_M) : Option (Unit × z_M) :=
  z_bnd (f0_copyFrom (z_sb c0) 18 σ) fun _ σ2 =>
  some ((), σ2)
def f7_firstOver_L2 : Nat → Nat → Int32 → z_M → Option (Int32 × z_M)
  | 0, _, _, _ => none
  | n + 1, c0, v1, σ =>
    if v1 < σ 1 0 then
      z_bnd (f0_sures (z_sb c0) v1 σ) fun r1 σ2 =>
      if σ2 1 1 < r1 then
        some (v1, σ2)
      else
        f7_firstOver_L2 n c0 (v1 + 1) σ2
    else
      some ((-1), σ)
def f7_firstOver (c0 : Nat) (σ : z_M) : Option (Int32 × z_M) :=
  f7_firstOver_L2 z_fu c0 0 σ
def f11_first_J88 (k40 : Int32 → Int32 → Int32 → Int32 → Int32 → Int32 → z_M → Option (Int32 × z_M)) (v1 : Int32) (v2 : Int32) (v3 : Int32) (v4 : Int32) (v5 : Int32) (v6 : Int32) (v7 : Int32) (σ : z_M) : Option (Int32 × z_M) :=
  k40 v1 v2 v3 v4 (v5 + v7) (v6 + 1) σ
def f11_first_J101 (v2 : Int32) (v3 : Int32) (v4 : Int32) (v5 : Int32) (σ : z_M) : Option (Int32 × z_M) :=
  if v2 = 2 then
    some (v5, σ)
  else
    if v2 = 0 then
      some (v3, σ)
    else
      some (v4, σ)
def f11_first_L40 : Nat → Int32 → Int32 → Int32 → Int32 → Int32 → Int32 → z_M → Option (Int32 × z_M)
  | 0, _, _, _, _, _, _, _ => none
  | n + 1, v1, v2, v3, v4, v5, v6, σ =>
    if v6 < v1 then
      z_bnd (f7_pass 51 σ) fun r1 σ2 =>
      if 0 < r1 then
        if v5 = 0 then
          z_bnd (f7_firstOver 51 σ2) fun r3 σ4 =>
          f11_first_J88 (f11_first_L40 n) v1 v2 r3 ((σ4 18 6) + v6) v5 v6 r1 σ4
        else
          f11_first_J88 (f11_first_L40 n) v1 v2 v3 v4 v5 v6 r1 σ2
      else
        f11_first_J88 (f11_first_L40 n) v1 v2 v3 v4 v5 v6 r1 σ2
    else
      f11_first_J101 v2 v3 v4 v5 σ
def f11_first (p1 : Int32) (p2 : Int32) (σ : z_M) : Option (Int32 × z_M) :=
  if p1 < 1 then
    some ((-1), σ)
  else
    if 60 < p1 then
      some ((-1), σ)
    else
      if p2 < 0 then
        some ((-1), σ)
      else
        if 2 < p2 then
          some ((-1), σ)
        else
          z_bnd (f7_fallAsleep 51 σ) fun _ σ2 =>
          f11_first_L40 z_fu p1 p2 (-1) (-1) 0 0 σ2
def f2_drop (p1 : Int32) (p2 : Int32) (σ : z_M) : Option (Unit × z_M) :=
  z_chk (z_in p1 8) <|
  z_chk (z_in p1 8) <|
  z_let (z_set σ 107 (z_ix p1) ((σ 107 (z_ix p1)) &&& ((z_shl 1 p2) ^^^ (-1)))) fun σ3 =>
  z_chk (z_in p2 8) <|
  z_chk (z_in p2 8) <|
  z_let (z_set σ3 109 (z_ix p2) ((σ3 109 (z_ix p2)) + 1)) fun σ6 =>
  some ((), σ6)
def f2_hand (p1 : Int32) (p2 : Int32) (σ : z_M) : Option (Unit × z_M) :=
  z_chk (z_in p1 8) <|
  z_chk (z_in p1 8) <|
  z_let (z_set σ 107 (z_ix p1) ((σ 107 (z_ix p1)) ||| (z_shl 1 p2))) fun σ3 =>
  z_chk (z_in p2 8) <|
  z_chk (z_in p2 8) <|
  z_let (z_set σ3 109 (z_ix p2) ((σ3 109 (z_ix p2)) - 1)) fun σ6 =>
  some ((), σ6)
def f2_freesB_J32 (ff : Int32 → Int32 → z_M → Option (Int32 × z_M)) (v1 : Int32) (v3 : Int32) (σ : z_M) : Option (Int32 × z_M) :=
  z_bnd (f2_drop v3 v1 σ) fun _ σ2 =>
  some (1, σ2)
def f2_freesB_L2 (ff : Int32 → Int32 → z_M → Option (Int32 × z_M)) : Nat → Int32 → Int32 → Int32 → z_M → Option (Int32 × z_M)
  | 0, _, _, _, _ => none
  | n + 1, v1, v2, v3, σ =>
    if v3 < 8 then
      z_chk (z_in v3 8) <|
      if (z_shr (σ 107 (z_ix v3)) v1) &&& 1 = 0 then
        f2_freesB_L2 ff n v1 v2 (v3 + 1) σ
      else
        z_bnd (ff v3 (v2 + 1) σ) fun r2 σ3 =>
        if r2 = 0 then
          f2_freesB_L2 ff n v1 v2 (v3 + 1) σ3
        else
          f2_freesB_J32 ff v1 v3 σ3
    else
      some (0, σ)
def f2_freesB (ff : Int32 → Int32 → z_M → Option (Int32 × z_M)) (p1 : Int32) (p2 : Int32) (σ : z_M) : Option (Int32 × z_M) :=
  f2_freesB_L2 ff z_fu p1 p2 0 σ
def f2_placeB_J78 (ff : Int32 → Int32 → z_M → Option (Int32 × z_M)) (v1 : Int32) (v3 : Int32) (σ : z_M) : Option (Int32 × z_M) :=
  z_bnd (f2_hand v1 v3 σ) fun _ σ2 =>
  some (1, σ2)
def f2_placeB_L10 (ff : Int32 → Int32 → z_M → Option (Int32 × z_M)) : Nat → Int32 → Int32 → Int32 → z_M → Option (Int32 × z_M)
  | 0, _, _, _, _ => none
  | n + 1, v1, v2, v3, σ =>
    if v3 < 8 then
      z_chk (z_in v1 8) <|
      z_chk (z_in v1 8) <|
      if (((σ 108 (z_ix v1)) &&& ((σ 107 (z_ix v1)) ^^^ (-1))) &&& ((σ 106 4) ^^^ (-1))) &&& (z_shl 1 v3) = 0 then
        f2_placeB_L10 ff n v1 v2 (v3 + 1) σ
      else
        z_let (z_set σ 106 4 ((σ 106 4) ||| (z_shl 1 v3))) fun σ3 =>
        z_chk (z_in v3 8) <|
        if 0 < σ3 109 (z_ix v3) then
          f2_placeB_J78 ff v1 v3 σ3
        else
          z_bnd (ff v3 v2 σ3) fun r5 σ6 =>
          if r5 = 0 then
            f2_placeB_L10 ff n v1 v2 (v3 + 1) σ6
          else
            f2_placeB_J78 ff v1 v3 σ6
    else
      some (0, σ)
def f2_placeB (ff : Int32 → Int32 → z_M → Option (Int32 × z_M)) (p1 : Int32) (p2 : Int32) (σ : z_M) : Option (Int32 × z_M) :=
  if 8 < p2 then
    some (0, σ)
  else
    f2_placeB_L10 ff z_fu p1 p2 0 σ
/-- place and frees, so deep -/
def f2_pf : Nat → (Int32 → Int32 → z_M → Option (Int32 × z_M)) × (Int32 → Int32 → z_M → Option (Int32 × z_M))
  | 0 => (fun _ _ _ => none, fun _ _ _ => none)
  | n + 1 => (f2_placeB (f2_pf n).2, f2_freesB (f2_pf n).1)
def f2_place (p1 p2 : Int32) (σ : z_M) : Option (Int32 × z_M) := (f2_pf 20).1 p1 p2 σ
def f2_lessen_L3 : Nat → Int32 → Int32 → z_M → Option (Unit × z_M)
  | 0, _, _, _ => none
  | n + 1, v1, v2, σ =>
    if v2 < 0 then
      some ((), σ)
    else
      z_chk (z_in v1 8) <|
      z_chk (z_in v1 8) <|
      z_let (z_set σ 108 (z_ix v1) ((σ 108 (z_ix v1)) &&& ((z_shl 1 v2) ^^^ (-1)))) fun σ3 =>
      z_chk (z_in v1 8) <|
      if (σ3 107 (z_ix v1)) &&& (z_shl 1 v2) = 0 then
        f2_lessen_L3 n v1 (v2 + (-1)) σ3
      else
        z_bnd (f2_drop v1 v2 σ3) fun _ σ6 =>
        z_let (z_set σ6 106 4 0) fun σ7 =>
        z_bnd (f2_place v1 0 σ7) fun r8 σ9 =>
        if r8 = 0 then
          z_bnd (f2_hand v1 v2 σ9) fun _ σ11 =>
          f2_lessen_L3 n v1 (v2 + (-1)) σ11
        else
          f2_lessen_L3 n v1 (v2 + (-1)) σ9
def f2_lessen (p1 : Int32) (σ : z_M) : Option (Unit × z_M) :=
  f2_lessen_L3 z_fu p1 7 σ
def f2_share_J182 (k119 : Nat → Int32 → z_M → Option (Int32 × z_M)) (c1 : Nat) (v2 : Int32) (σ : z_M) : Option (Int32 × z_M) :=
  k119 c1 (v2 + 1) σ
def f2_share_L144 (k119 : Nat → Int32 → z_M → Option (Int32 × z_M)) : Nat → Nat → Int32 → Int32 → Int32 → z_M → Option (Int32 × z_M)
  | 0, _, _, _, _, _ => none
  | n + 1, c1, v2, v3, v4, σ =>
    if v4 < v3 then
      z_let (z_set σ 106 4 0) fun σ1 =>
      z_bnd (f2_place v2 0 σ1) fun r2 σ3 =>
      if r2 = 0 then
        some (0, σ3)
      else
        z_let (z_set σ3 106 0 ((σ3 106 0) + 1)) fun σ4 =>
        f2_share_L144 k119 n c1 v2 v3 (v4 + 1) σ4
    else
      f2_share_J182 k119 c1 v2 σ
def f2_share_L190 : Nat → Nat → Int32 → z_M → Option (Int32 × z_M)
  | 0, _, _, _ => none
  | n + 1, c1, v2, σ =>
    if v2 < σ c1 0 then
      z_bnd (f2_lessen v2 σ) fun _ σ2 =>
      f2_share_L190 n c1 (v2 + 1) σ2
    else
      some (1, σ)
def f2_share_J188 (c1 : Nat) (σ : z_M) : Option (Int32 × z_M) :=
  f2_share_L190 z_fu c1 0 σ
def f2_share_L119 : Nat → Nat → Int32 → z_M → Option (Int32 × z_M)
  | 0, _, _, _ => none
  | n + 1, c1, v2, σ =>
    if v2 < σ c1 0 then
      z_bnd (f0_sures (c1 + 17) v2 σ) fun r1 σ2 =>
      f2_share_L144 (f2_share_L119 n) z_fu c1 v2 (r1 - (σ2 c1 1)) 0 σ2
    else
      f2_share_J188 c1 σ
def f2_share_J117 (c1 : Nat) (σ : z_M) : Option (Int32 × z_M) :=
  f2_share_L119 z_fu c1 0 σ
def f2_share_L57 : Nat → Nat → Int32 → z_M → Option (Int32 × z_M)
  | 0, _, _, _ => none
  | n + 1, c1, v2, σ =>
    if v2 < σ (c1 + 9) 2 then
      z_bnd (f9_at (c1 + 9) v2 1 σ) fun r1 σ2 =>
      if r1 = 1 then
        z_bnd (f9_at (c1 + 9) v2 0 σ2) fun r3 σ4 =>
        z_chk (z_in r3 8) <|
        z_bnd (f9_at (c1 + 9) v2 2 σ4) fun r6 σ7 =>
        z_chk (z_in r3 8) <|
        z_let (z_set σ7 108 (z_ix r3) ((σ4 108 (z_ix r3)) &&& ((z_shl 1 r6) ^^^ (-1)))) fun σ9 =>
        f2_share_L57 n c1 (v2 + 1) σ9
      else
        f2_share_L57 n c1 (v2 + 1) σ2
    else
      f2_share_J117 c1 σ
def f2_share_J55 (c1 : Nat) (σ : z_M) : Option (Int32 × z_M) :=
  f2_share_L57 z_fu c1 0 σ
def f2_share_L22 : Nat → Nat → Int32 → z_M → Option (Int32 × z_M)
  | 0, _, _, _ => none
  | n + 1, c1, v2, σ =>
    if v2 < 8 then
      z_chk (z_in v2 8) <|
      z_let (z_set σ 107 (z_ix v2) 0) fun σ2 =>
      z_bnd (f0_sureOf (c1 + 17) v2 σ2) fun r3 σ4 =>
      z_chk (z_in v2 8) <|
      z_let (z_set σ4 108 (z_ix v2) r3) fun σ6 =>
      f2_share_L22 n c1 (v2 + 1) σ6
    else
      f2_share_J55 c1 σ
def f2_share (c1 : Nat) (σ : z_M) : Option (Int32 × z_M) :=
  z_let (z_set σ 106 0 0) fun σ1 =>
  z_chk (z_cok 8 0 8 0 8) <|
  z_let (z_cpy σ1 (c1 + 1) 0 109 0 8) fun σ3 =>
  f2_share_L22 z_fu c1 0 σ3
def f11_gives_J17 (v1 : Int32) (σ : z_M) : Option (Int32 × z_M) :=
  z_bnd (f2_share 1 σ) fun r1 σ2 =>
  if r1 = 0 then
    some ((-1), σ2)
  else
    if v1 = 0 then
      some (σ2 106 0, σ2)
    else
      z_chk (z_in (v1 - 10) 8) <|
      some (σ2 107 (z_ix (v1 - 10)), σ2)
def f11_gives (p1 : Int32) (σ : z_M) : Option (Int32 × z_M) :=
  if p1 = 0 then
    f11_gives_J17 p1 σ
  else
    z_bnd (f11_isHouse (p1 - 10) σ) fun r1 σ2 =>
    if r1 = 0 then
      some ((-1), σ2)
    else
      f11_gives_J17 p1 σ2
def f6_worksDone_J72 (k4 : Nat → Int32 → Int32 → z_M → Option (Int32 × z_M)) (c1 : Nat) (v2 : Int32) (v3 : Int32) (s0 : Int32) (s1 : Int32) (σ : z_M) : Option (Int32 × z_M) :=
  if s0 = s1 then
    k4 c1 (v2 ||| (z_shl 1 v3)) (v3 + 1) σ
  else
    k4 c1 v2 (v3 + 1) σ
def f6_worksDone_J54 (k4 : Nat → Int32 → Int32 → z_M → Option (Int32 × z_M)) (c1 : Nat) (v2 : Int32) (v3 : Int32) (s0 : Int32) (σ : z_M) : Option (Int32 × z_M) :=
  z_bnd (f9_at (c1 + 9) v3 1 σ) fun r1 σ2 =>
  if r1 = 1 then
    f6_worksDone_J72 k4 c1 v2 v3 s0 1 σ2
  else
    f6_worksDone_J72 k4 c1 v2 v3 s0 0 σ2
def f6_worksDone_L4 : Nat → Nat → Int32 → Int32 → z_M → Option (Int32 × z_M)
  | 0, _, _, _, _ => none
  | n + 1, c1, v2, v3, σ =>
    if v3 < σ (c1 + 9) 2 then
      z_bnd (f9_at (c1 + 9) v3 0 σ) fun r1 σ2 =>
      z_bnd (f9_at (c1 + 9) v3 2 σ2) fun r3 σ4 =>
      z_bnd (f0_degreeOf (c1 + 17) r1 r3 σ4) fun r5 σ6 =>
      if r5 < 90 then
        f6_worksDone_J54 (f6_worksDone_L4 n) c1 v2 v3 0 σ6
      else
        f6_worksDone_J54 (f6_worksDone_L4 n) c1 v2 v3 1 σ6
    else
      some (v2, σ)
def f6_worksDone (c1 : Nat) (σ : z_M) : Option (Int32 × z_M) :=
  f6_worksDone_L4 z_fu c1 0 0 σ
def f11_done (σ : z_M) : Option (Int32 × z_M) :=
  z_bnd (f6_worksDone 1 σ) fun r1 σ2 =>
  some (r1, σ2)
def f0_sumOf_L5 : Nat → Nat → Int32 → Int32 → Int32 → Int32 → z_M → Option (Int32 × z_M)
  | 0, _, _, _, _, _, _ => none
  | n + 1, c0, v1, v2, v3, v4, σ =>
    if v4 < 8 then
      if (z_shr v2 v4) &&& 1 = 0 then
        f0_sumOf_L5 n c0 v1 v2 v3 (v4 + 1) σ
      else
        z_chk (z_in ((v1 * 8) + v4) 64) <|
        z_let (v3 + (σ (c0 + 1) (z_ix ((v1 * 8) + v4)))) fun x2 =>
        f0_sumOf_L5 n c0 v1 v2 x2 (v4 + 1) σ
    else
      some (v3, σ)
def f0_sumOf (c0 : Nat) (p1 : Int32) (p2 : Int32) (σ : z_M) : Option (Int32 × z_M) :=
  f0_sumOf_L5 z_fu c0 p1 p2 0 0 σ
def f6_findClashes_L23 : Nat → Nat → Int32 → z_M → Option (Unit × z_M)
  | 0, _, _, _ => none
  | n + 1, c1, v2, σ =>
    if v2 < σ c1 2 then
      z_bnd (f9_at c1 v2 2 σ) fun r1 σ2 =>
      if r1 = 0 then
        z_bnd (f9_at c1 v2 0 σ2) fun r3 σ4 =>
        z_chk (z_in r3 8) <|
        z_bnd (f9_at c1 v2 1 σ4) fun r6 σ7 =>
        z_chk (z_in r3 8) <|
        z_let (z_set σ7 111 (z_ix r3) ((σ4 111 (z_ix r3)) ||| r6)) fun σ9 =>
        f6_findClashes_L23 n c1 (v2 + 1) σ9
      else
        f6_findClashes_L23 n c1 (v2 + 1) σ2
    else
      some ((), σ)
def f6_findClashes_J21 (c1 : Nat) (σ : z_M) : Option (Unit × z_M) :=
  f6_findClashes_L23 z_fu c1 0 σ
def f6_findClashes_L2 : Nat → Nat → Int32 → z_M → Option (Unit × z_M)
  | 0, _, _, _ => none
  | n + 1, c1, v2, σ =>
    if v2 < 8 then
      z_chk (z_in v2 8) <|
      z_let (z_set σ 111 (z_ix v2) 0) fun σ2 =>
      f6_findClashes_L2 n c1 (v2 + 1) σ2
    else
      f6_findClashes_J21 c1 σ
def f6_findClashes (c1 : Nat) (σ : z_M) : Option (Unit × z_M) :=
  f6_findClashes_L2 z_fu c1 0 σ
def f6_isAtPeace_L2 : Nat → Int32 → Int32 → z_M → Option (Int32 × z_M)
  | 0, _, _, _ => none
  | n + 1, v1, v2, σ =>
    if v2 < 8 then
      if (z_shr v1 v2) &&& 1 = 0 then
        f6_isAtPeace_L2 n v1 (v2 + 1) σ
      else
        z_chk (z_in v2 8) <|
        if (σ 111 (z_ix v2)) &&& v1 = 0 then
          f6_isAtPeace_L2 n v1 (v2 + 1) σ
        else
          some (0, σ)
    else
      some (1, σ)
def f6_isAtPeace (p1 : Int32) (σ : z_M) : Option (Int32 × z_M) :=
  f6_isAtPeace_L2 z_fu p1 0 σ
def f6_toStrike_L34 : Nat → Nat → Int32 → Int32 → Int32 → Int32 → Int32 → z_M → Option (Int32 × z_M)
  | 0, _, _, _, _, _, _, _ => none
  | n + 1, c1, v2, v3, v4, v5, v6, σ =>
    if v6 < 256 then
      if v6 &&& (v3 ^^^ (-1)) = 0 then
        z_bnd (f6_isAtPeace (v3 &&& (v6 ^^^ (-1))) σ) fun r1 σ2 =>
        if r1 = 0 then
          f6_toStrike_L34 n c1 v2 v3 v4 v5 (v6 + 1) σ2
        else
          z_bnd (f0_sumOf (c1 + 17) v2 v6 σ2) fun r3 σ4 =>
          if r3 < v5 then
            f6_toStrike_L34 n c1 v2 v3 v6 r3 (v6 + 1) σ4
          else
            f6_toStrike_L34 n c1 v2 v3 v4 v5 (v6 + 1) σ4
      else
        f6_toStrike_L34 n c1 v2 v3 v4 v5 (v6 + 1) σ
    else
      some (v4, σ)
def f6_toStrike (c1 : Nat) (p2 : Int32) (σ : z_M) : Option (Int32 × z_M) :=
  z_bnd (f6_findClashes (c1 + 3) σ) fun _ σ2 =>
  z_bnd (f0_sureOf (c1 + 17) p2 σ2) fun r3 σ4 =>
  z_bnd (f0_sumOf (c1 + 17) p2 r3 σ4) fun r5 σ6 =>
  f6_toStrike_L34 z_fu c1 p2 r3 r3 r5 0 σ6
def f11_struck (p1 : Int32) (p2 : Int32) (σ : z_M) : Option (Int32 × z_M) :=
  z_bnd (f11_isHouse p1 σ) fun r1 σ2 =>
  if r1 = 0 then
    some ((-1), σ2)
  else
    if p2 < 0 then
      some ((-1), σ2)
    else
      if 1 < p2 then
        some ((-1), σ2)
      else
        z_bnd (f6_toStrike 1 p1 σ2) fun r3 σ4 =>
        if p2 = 1 then
          some (r3, σ4)
        else
          z_bnd (f0_sumOf 18 p1 r3 σ4) fun r5 σ6 =>
          some (r5, σ6)
def f6_follows_L5 : Nat → Nat → Int32 → Int32 → Int32 → z_M → Option (Int32 × z_M)
  | 0, _, _, _, _, _ => none
  | n + 1, c1, v2, v3, v4, σ =>
    if v4 < σ c1 2 then
      z_bnd (f9_at c1 v4 2 σ) fun r1 σ2 =>
      if 0 < r1 then
        z_bnd (f9_at c1 v4 1 σ2) fun r3 σ4 =>
        if r3 &&& (v2 ^^^ (-1)) = 0 then
          z_bnd (f9_at c1 v4 0 σ4) fun r5 σ6 =>
          f6_follows_L5 n c1 v2 (v3 ||| (z_shl 1 r5)) (v4 + 1) σ6
        else
          f6_follows_L5 n c1 v2 v3 (v4 + 1) σ4
      else
        f6_follows_L5 n c1 v2 v3 (v4 + 1) σ2
    else
      some (v3, σ)
def f6_follows (c1 : Nat) (p2 : Int32) (σ : z_M) : Option (Int32 × z_M) :=
  f6_follows_L5 z_fu c1 p2 0 0 σ
def f6_falls_J113 (v4 : Int32) (v6 : Int32) (σ : z_M) : Option (Int32 × z_M) :=
  some (v4 &&& (v6 ^^^ (-1)), σ)
def f6_falls_L82 : Nat → Nat → Int32 → Int32 → Int32 → z_M → Option (Int32 × z_M)
  | 0, _, _, _, _, _ => none
  | n + 1, c1, v4, v6, v7, σ =>
    if v7 < 8 then
      z_bnd (f6_follows (c1 + 3) v6 σ) fun r1 σ2 =>
      f6_falls_L82 n c1 v4 (v6 ||| (v4 &&& r1)) (v7 + 1) σ2
    else
      f6_falls_J113 v4 v6 σ
def f6_falls_J70 (c1 : Nat) (v4 : Int32) (v5 : Int32) (σ : z_M) : Option (Int32 × z_M) :=
  f6_falls_L82 z_fu c1 v4 (v4 &&& (v5 ^^^ (-1))) 0 σ
def f6_falls_L22 : Nat → Nat → Int32 → Int32 → Int32 → z_M → Option (Int32 × z_M)
  | 0, _, _, _, _, _ => none
  | n + 1, c1, v4, v5, v6, σ =>
    if v6 < σ (c1 + 3) 2 then
      z_bnd (f9_at (c1 + 3) v6 2 σ) fun r1 σ2 =>
      if 0 < r1 then
        z_bnd (f9_at (c1 + 3) v6 0 σ2) fun r3 σ4 =>
        f6_falls_L22 n c1 v4 (v5 ||| (z_shl 1 r3)) (v6 + 1) σ4
      else
        f6_falls_L22 n c1 v4 v5 (v6 + 1) σ2
    else
      f6_falls_J70 c1 v4 v5 σ
def f6_falls (c1 : Nat) (p2 : Int32) (p3 : Int32) (σ : z_M) : Option (Int32 × z_M) :=
  z_bnd (f0_sureOf (c1 + 17) p2 σ) fun r1 σ2 =>
  f6_falls_L22 z_fu c1 (r1 &&& ((z_shl 1 p3) ^^^ (-1))) 0 0 σ2
def f11_down (p1 : Int32) (p2 : Int32) (σ : z_M) : Option (Int32 × z_M) :=
  z_bnd (f11_isHouse p1 σ) fun r1 σ2 =>
  if r1 = 0 then
    some ((-1), σ2)
  else
    z_bnd (f11_isThing p2 σ2) fun r3 σ4 =>
    if r3 = 0 then
      some ((-1), σ4)
    else
      z_bnd (f0_degreeOf 18 p1 p2 σ4) fun r5 σ6 =>
      if r5 < 90 then
        some ((-1), σ6)
      else
        z_bnd (f6_falls 1 p1 p2 σ6) fun r7 σ8 =>
        some (r7, σ8)
def f4_flight_J76 (k8 : Nat → Int32 → Int32 → Int32 → z_M → Option (Int32 × z_M)) (c1 : Nat) (v3 : Int32) (v5 : Int32) (v6 : Int32) (σ : z_M) : Option (Int32 × z_M) :=
  k8 c1 v3 v6 (v5 + 1) σ
def f4_flight_L22 (k8 : Nat → Int32 → Int32 → Int32 → z_M → Option (Int32 × z_M)) : Nat → Nat → Int32 → Int32 → Int32 → Int32 → Int32 → z_M → Option (Int32 × z_M)
  | 0, _, _, _, _, _, _, _ => none
  | n + 1, c1, v3, v4, v5, v6, v7, σ =>
    if v7 < σ c1 0 then
      if (z_shr v4 v7) &&& 1 = 0 then
        f4_flight_L22 k8 n c1 v3 v4 v5 v6 (v7 + 1) σ
      else
        z_chk (z_in v7 8) <|
        if σ (c1 + 19) (z_ix v7) = v3 then
          some (v5, σ)
        else
          z_chk (z_in v7 8) <|
          f4_flight_L22 k8 n c1 v3 v4 v5 (v6 ||| (σ (c1 + 2) (z_ix v7))) (v7 + 1) σ
    else
      f4_flight_J76 k8 c1 v3 v5 v6 σ
def f4_flight_L8 : Nat → Nat → Int32 → Int32 → Int32 → z_M → Option (Int32 × z_M)
  | 0, _, _, _, _, _ => none
  | n + 1, c1, v3, v4, v5, σ =>
    if v5 < 8 then
      f4_flight_L22 (f4_flight_L8 n) z_fu c1 v3 v4 v5 v4 0 σ
    else
      some ((-1), σ)
def f4_flight (c1 : Nat) (p2 : Int32) (p3 : Int32) (σ : z_M) : Option (Int32 × z_M) :=
  f4_flight_L8 z_fu c1 p3 (z_shl 1 p2) 0 σ
def f11_by (p1 : Int32) (p2 : Int32) (σ : z_M) : Option (Int32 × z_M) :=
  z_bnd (f11_isHouse p1 σ) fun r1 σ2 =>
  if r1 = 0 then
    some ((-1), σ2)
  else
    z_bnd (f11_isThing p2 σ2) fun r3 σ4 =>
    if r3 = 0 then
      some ((-1), σ4)
    else
      z_bnd (f4_flight 1 p1 p2 σ4) fun r5 σ6 =>
      some (r5, σ6)
def f4_cut_J88 (k7 : Nat → Int32 → Int32 → Int32 → Int32 → z_M → Option (Int32 × z_M)) (c1 : Nat) (v2 : Int32) (v3 : Int32) (v4 : Int32) (v5 : Int32) (v6 : Int32) (σ : z_M) : Option (Int32 × z_M) :=
  k7 c1 v2 v3 (z_min v4 v6) (v5 + 1) σ
def f4_cut_L43 (k7 : Nat → Int32 → Int32 → Int32 → Int32 → z_M → Option (Int32 × z_M)) : Nat → Nat → Int32 → Int32 → Int32 → Int32 → Int32 → Int32 → z_M → Option (Int32 × z_M)
  | 0, _, _, _, _, _, _, _, _ => none
  | n + 1, c1, v2, v3, v4, v5, v6, v7, σ =>
    if v7 < σ c1 0 then
      if (z_shr v5 v7) &&& 1 = 0 then
        f4_cut_L43 k7 n c1 v2 v3 v4 v5 v6 (v7 + 1) σ
      else
        z_chk (z_in v7 8) <|
        z_bnd (fj6_bitCount ((σ (c1 + 2) (z_ix v7)) &&& (v5 ^^^ (-1))) σ) fun r2 σ3 =>
        f4_cut_L43 k7 n c1 v2 v3 v4 v5 (v6 + r2) (v7 + 1) σ3
    else
      f4_cut_J88 k7 c1 v2 v3 v4 v5 v6 σ
def f4_cut_L7 : Nat → Nat → Int32 → Int32 → Int32 → Int32 → z_M → Option (Int32 × z_M)
  | 0, _, _, _, _, _, _ => none
  | n + 1, c1, v2, v3, v4, v5, σ =>
    if v5 < z_shl 1 (σ c1 0) then
      if (z_shr v5 v2) &&& 1 = 1 then
        if (z_shr v5 v3) &&& 1 = 0 then
          f4_cut_L43 (f4_cut_L7 n) z_fu c1 v2 v3 v4 v5 0 0 σ
        else
          f4_cut_L7 n c1 v2 v3 v4 (v5 + 1) σ
      else
        f4_cut_L7 n c1 v2 v3 v4 (v5 + 1) σ
    else
      some (v4, σ)
def f4_cut (c1 : Nat) (p2 : Int32) (p3 : Int32) (σ : z_M) : Option (Int32 × z_M) :=
  f4_cut_L7 z_fu c1 p2 p3 64 0 σ
def f11_part (p1 : Int32) (p2 : Int32) (σ : z_M) : Option (Int32 × z_M) :=
  z_bnd (f11_areTwo p1 p2 σ) fun r1 σ2 =>
  if r1 = 0 then
    some ((-1), σ2)
  else
    z_bnd (f4_cut 1 p1 p2 σ2) fun r3 σ4 =>
    some (r3, σ4)
def f1_heard (c0 : Nat) (p1 : Int32) (p2 : Int32) (p3 : Int32) (σ : z_M) : Option (Unit × z_M) :=
  if 36 < ((σ c0 11) * 3) + 3 then
    some ((), σ)
  else
    z_chk (z_in ((σ c0 11) * 3) 36) <|
    z_let (z_set σ (c0 + 15) (z_ix ((σ c0 11) * 3)) p1) fun σ2 =>
    z_chk (z_in (((σ c0 11) * 3) + 1) 36) <|
    z_let (z_set σ2 (c0 + 15) (z_ix (((σ c0 11) * 3) + 1)) p2) fun σ4 =>
    z_chk (z_in (((σ c0 11) * 3) + 2) 36) <|
    z_let (z_set σ4 (c0 + 15) (z_ix (((σ c0 11) * 3) + 2)) p3) fun σ6 =>
    z_let (z_set σ6 c0 11 ((σ6 c0 11) + 1)) fun σ7 =>
    some ((), σ7)
def f11_talk (p1 : Int32) (p2 : Int32) (p3 : Int32) (σ : z_M) : Option (Int32 × z_M) :=
  if p1 = (-1) then
    z_let (z_set σ 1 11 0) fun σ7 =>
    some (0, σ7)
  else
    z_bnd (f11_isHouse p1 σ) fun r1 σ2 =>
    if r1 = 0 then
      some ((-1), σ2)
    else
      z_bnd (f11_isThing p2 σ2) fun r3 σ4 =>
      if r3 = 0 then
        some ((-1), σ4)
      else
        if p3 < 0 then
          some ((-1), σ4)
        else
          if 1 < p3 then
            some ((-1), σ4)
          else
            if σ4 1 11 < 12 then
              z_bnd (f1_heard 1 p1 p2 p3 σ4) fun _ σ6 =>
              some (σ6 1 11, σ6)
            else
              some ((-1), σ4)
def f6_isFit_J85 (v3 : Int32) (v5 : Int32) (σ : z_M) : Option (Int32 × z_M) :=
  if v3 < v5 then
    some (0, σ)
  else
    some (1, σ)
def f6_isFit_L20 : Nat → Nat → Int32 → Int32 → Int32 → Int32 → Int32 → z_M → Option (Int32 × z_M)
  | 0, _, _, _, _, _, _, _ => none
  | n + 1, c1, v2, v3, v4, v5, v6, σ =>
    if v6 < σ c1 11 then
      z_chk (z_in ((v6 * 3) + 1) 36) <|
      z_let ((z_shr v4 (σ (c1 + 15) (z_ix ((v6 * 3) + 1)))) &&& 1) fun x2 =>
      z_chk (z_in (v6 * 3) 36) <|
      if σ (c1 + 15) (z_ix (v6 * 3)) = v2 then
        z_chk (z_in ((v6 * 3) + 2) 36) <|
        if x2 = σ (c1 + 15) (z_ix ((v6 * 3) + 2)) then
          f6_isFit_L20 n c1 v2 v3 v4 (v5 + 1) (v6 + 1) σ
        else
          f6_isFit_L20 n c1 v2 v3 v4 v5 (v6 + 1) σ
      else
        f6_isFit_L20 n c1 v2 v3 v4 v5 (v6 + 1) σ
    else
      f6_isFit_J85 v3 v5 σ
def f6_isFit (c1 : Nat) (p2 : Int32) (p3 : Int32) (p4 : Int32) (σ : z_M) : Option (Int32 × z_M) :=
  z_bnd (fj6_bitCount p4 σ) fun r1 σ2 =>
  if σ2 c1 1 < r1 then
    some (0, σ2)
  else
    f6_isFit_L20 z_fu c1 p2 p3 p4 0 0 σ2
def f6_countFits_L6 : Nat → Nat → Int32 → Int32 → Int32 → Int32 → z_M → Option (Int32 × z_M)
  | 0, _, _, _, _, _, _ => none
  | n + 1, c1, v2, v3, v4, v5, σ =>
    if v5 < 256 then
      z_bnd (f6_isFit c1 v2 v3 v5 σ) fun r1 σ2 =>
      if r1 = 0 then
        f6_countFits_L6 n c1 v2 v3 v4 (v5 + 1) σ2
      else
        f6_countFits_L6 n c1 v2 v3 (v4 + 1) (v5 + 1) σ2
    else
      some (v4, σ)
def f6_countFits (c1 : Nat) (p2 : Int32) (p3 : Int32) (σ : z_M) : Option (Int32 × z_M) :=
  f6_countFits_L6 z_fu c1 p2 p3 0 0 σ
def f11_fits (p1 : Int32) (p2 : Int32) (σ : z_M) : Option (Int32 × z_M) :=
  z_bnd (f11_isHouse p1 σ) fun r1 σ2 =>
  if r1 = 0 then
    some ((-1), σ2)
  else
    if p2 < 0 then
      some ((-1), σ2)
    else
      if 3 < p2 then
        some ((-1), σ2)
      else
        z_bnd (f6_countFits 1 p1 p2 σ2) fun r3 σ4 =>
        some (r3, σ4)
def f6_bestQuestion_J86 (k30 : Nat → Int32 → Int32 → Int32 → Int32 → z_M → Option (Int32 × z_M)) (c1 : Nat) (v2 : Int32) (v3 : Int32) (v4 : Int32) (v5 : Int32) (σ : z_M) : Option (Int32 × z_M) :=
  k30 c1 v2 v3 v4 (v5 + 1) σ
def f6_bestQuestion_L56 (k30 : Nat → Int32 → Int32 → Int32 → Int32 → z_M → Option (Int32 × z_M)) : Nat → Nat → Int32 → Int32 → Int32 → Int32 → Int32 → z_M → Option (Int32 × z_M)
  | 0, _, _, _, _, _, _, _ => none
  | n + 1, c1, v2, v3, v4, v5, v6, σ =>
    if v6 < 8 then
      z_chk (z_in v6 8) <|
      z_chk (z_in v6 8) <|
      z_let (z_set σ 112 (z_ix v6) ((σ 112 (z_ix v6)) + ((z_shr v5 v6) &&& 1))) fun σ3 =>
      f6_bestQuestion_L56 k30 n c1 v2 v3 v4 v5 (v6 + 1) σ3
    else
      f6_bestQuestion_J86 k30 c1 v2 v3 v4 v5 σ
def f6_bestQuestion_L104 : Nat → Int32 → Int32 → Int32 → Int32 → z_M → Option (Int32 × z_M)
  | 0, _, _, _, _, _ => none
  | n + 1, v4, v5, v6, v7, σ =>
    if v7 < 8 then
      if 1 < v4 then
        z_chk (z_in v7 8) <|
        z_chk (z_in v7 8) <|
        z_let (z_max (σ 112 (z_ix v7)) (v4 - (σ 112 (z_ix v7)))) fun x3 =>
        if x3 < v6 then
          f6_bestQuestion_L104 n v4 v7 x3 (v7 + 1) σ
        else
          f6_bestQuestion_L104 n v4 v5 v6 (v7 + 1) σ
      else
        some (v5, σ)
    else
      some (v5, σ)
def f6_bestQuestion_J92 (v4 : Int32) (σ : z_M) : Option (Int32 × z_M) :=
  f6_bestQuestion_L104 z_fu v4 (-1) (v4 + 1) 0 σ
def f6_bestQuestion_L30 : Nat → Nat → Int32 → Int32 → Int32 → Int32 → z_M → Option (Int32 × z_M)
  | 0, _, _, _, _, _, _ => none
  | n + 1, c1, v2, v3, v4, v5, σ =>
    if v5 < 256 then
      z_bnd (f6_isFit c1 v2 v3 v5 σ) fun r1 σ2 =>
      if r1 = 0 then
        f6_bestQuestion_J86 (f6_bestQuestion_L30 n) c1 v2 v3 v4 v5 σ2
      else
        f6_bestQuestion_L56 (f6_bestQuestion_L30 n) z_fu c1 v2 v3 (v4 + 1) v5 0 σ2
    else
      f6_bestQuestion_J92 v4 σ
def f6_bestQuestion_J27 (c1 : Nat) (v2 : Int32) (v3 : Int32) (v4 : Int32) (σ : z_M) : Option (Int32 × z_M) :=
  f6_bestQuestion_L30 z_fu c1 v2 v3 v4 0 σ
def f6_bestQuestion_L6 : Nat → Nat → Int32 → Int32 → Int32 → Int32 → z_M → Option (Int32 × z_M)
  | 0, _, _, _, _, _, _ => none
  | n + 1, c1, v2, v3, v4, v5, σ =>
    if v5 < 8 then
      z_chk (z_in v5 8) <|
      z_let (z_set σ 112 (z_ix v5) 0) fun σ2 =>
      f6_bestQuestion_L6 n c1 v2 v3 v4 (v5 + 1) σ2
    else
      f6_bestQuestion_J27 c1 v2 v3 v4 σ
def f6_bestQuestion (c1 : Nat) (p2 : Int32) (p3 : Int32) (σ : z_M) : Option (Int32 × z_M) :=
  f6_bestQuestion_L6 z_fu c1 p2 p3 0 0 σ
def f11_ask (p1 : Int32) (p2 : Int32) (σ : z_M) : Option (Int32 × z_M) :=
  z_bnd (f11_isHouse p1 σ) fun r1 σ2 =>
  if r1 = 0 then
    some ((-1), σ2)
  else
    if p2 < 0 then
      some ((-1), σ2)
    else
      if 3 < p2 then
        some ((-1), σ2)
      else
        z_bnd (f6_bestQuestion 1 p1 p2 σ2) fun r3 σ4 =>
        some (r3, σ4)
def f7_bears_J66 (c0 : Nat) (v1 : Int32) (σ : z_M) : Option (Int32 × z_M) :=
  z_bnd (f0_hasPot (z_sb c0) v1 σ) fun r1 σ2 =>
  z_chk (z_01 r1) <|
  some (r1, σ2)
def f7_bears_L17 : Nat → Nat → Int32 → Int32 → Int32 → Int32 → Int32 → z_M → Option (Int32 × z_M)
  | 0, _, _, _, _, _, _, _ => none
  | n + 1, c0, v1, v2, v3, v4, v5, σ =>
    if v5 < v2 then
      z_bnd (f0_hasPot (z_sb c0) v1 σ) fun r1 σ2 =>
      if r1 = 0 then
        f7_bears_J66 c0 v1 σ2
      else
        z_bnd (f7_pour c0 v1 v3 σ2) fun _ σ4 =>
        z_bnd (f7_growPot c0 v1 v4 σ4) fun _ σ6 =>
        z_let (z_set σ6 (z_sb c0) 6 ((σ6 (z_sb c0) 6) + 1)) fun σ7 =>
        f7_bears_L17 n c0 v1 v2 v3 v4 (v5 + 1) σ7
    else
      f7_bears_J66 c0 v1 σ
def f7_bears (c0 : Nat) (p1 : Int32) (p2 : Int32) (p3 : Int32) (σ : z_M) : Option (Int32 × z_M) :=
  z_bnd (f7_fallAsleep c0 σ) fun _ σ2 =>
  z_bnd (f0_sures (z_sb c0) p1 σ2) fun r3 σ4 =>
  f7_bears_L17 z_fu c0 p1 p2 p3 r3 0 σ4
def f11_waters_J68 (k47 : Int32 → Int32 → Int32 → Int32 → z_M → Option (Int32 × z_M)) (v1 : Int32) (v2 : Int32) (v3 : Int32) (v4 : Int32) (s0 : Int32) (σ : z_M) : Option (Int32 × z_M) :=
  z_bnd (f7_bears 51 v1 v2 s0 σ) fun r1 σ2 =>
  if r1 = 0 then
    k47 v1 v2 v3 (v4 + 1) σ2
  else
    some (s0, σ2)
def f11_waters_L47 : Nat → Int32 → Int32 → Int32 → Int32 → z_M → Option (Int32 × z_M)
  | 0, _, _, _, _, _ => none
  | n + 1, v1, v2, v3, v4, σ =>
    if 40 < v4 then
      some ((-1), σ)
    else
      if v3 = 0 then
        f11_waters_J68 (f11_waters_L47 n) v1 v2 v3 v4 v4 σ
      else
        f11_waters_J68 (f11_waters_L47 n) v1 v2 v3 v4 (40 - v4) σ
def f11_waters (p1 : Int32) (p2 : Int32) (p3 : Int32) (σ : z_M) : Option (Int32 × z_M) :=
  z_bnd (f11_isHouse p1 σ) fun r1 σ2 =>
  if r1 = 0 then
    some ((-1), σ2)
  else
    if p2 < 1 then
      some ((-1), σ2)
    else
      if 30 < p2 then
        some ((-1), σ2)
      else
        if p3 < 0 then
          some ((-1), σ2)
        else
          if 1 < p3 then
            some ((-1), σ2)
          else
            z_bnd (f0_hasPot 18 p1 σ2) fun r3 σ4 =>
            if r3 = 0 then
              some ((-1), σ4)
            else
              f11_waters_L47 z_fu p1 p2 p3 0 σ4
def f4_leftOf_L13 : Nat → Nat → Int32 → Int32 → z_M → Option (Int32 × z_M)
  | 0, _, _, _, _ => none
  | n + 1, c1, v3, v4, σ =>
    if v4 < σ c1 0 then
      z_chk (z_in v4 8) <|
      f4_leftOf_L13 n c1 (v3 ^^^ (σ (c1 + 20) (z_ix v4))) (v4 + 1) σ
    else
      some (v3, σ)
def f4_leftOf (c1 : Nat) (p2 : Int32) (σ : z_M) : Option (Int32 × z_M) :=
  z_chk (z_in p2 8) <|
  f4_leftOf_L13 z_fu c1 (σ (c1 + 20) (z_ix p2)) 0 σ
def f4_winningPot_L2 : Nat → Nat → Int32 → z_M → Option (Int32 × z_M)
  | 0, _, _, _ => none
  | n + 1, c1, v2, σ =>
    if v2 < σ c1 0 then
      z_bnd (f4_leftOf c1 v2 σ) fun r1 σ2 =>
      z_chk (z_in v2 8) <|
      if r1 < σ2 (c1 + 20) (z_ix v2) then
        some (v2, σ2)
      else
        f4_winningPot_L2 n c1 (v2 + 1) σ2
    else
      some ((-1), σ)
def f4_winningPot (c1 : Nat) (σ : z_M) : Option (Int32 × z_M) :=
  f4_winningPot_L2 z_fu c1 0 σ
def f11_game (p1 : Int32) (σ : z_M) : Option (Int32 × z_M) :=
  if p1 < 0 then
    some ((-1), σ)
  else
    if 1 < p1 then
      some ((-1), σ)
    else
      z_bnd (f4_winningPot 1 σ) fun r1 σ2 =>
      if p1 = 0 then
        some (r1, σ2)
      else
        if r1 = (-1) then
          some (r1, σ2)
        else
          z_bnd (f4_leftOf 1 r1 σ2) fun r3 σ4 =>
          some (r3, σ4)
def f4_leastFilled_J92 (k7 : Nat → Int32 → Int32 → Int32 → Int32 → z_M → Option (Int32 × z_M)) (c1 : Nat) (v2 : Int32) (v3 : Int32) (v4 : Int32) (v5 : Int32) (s0 : Int32) (σ : z_M) : Option (Int32 × z_M) :=
  k7 c1 v2 v3 (z_min v4 s0) (v5 + 1) σ
def f4_leastFilled_L7 : Nat → Nat → Int32 → Int32 → Int32 → Int32 → z_M → Option (Int32 × z_M)
  | 0, _, _, _, _, _, _ => none
  | n + 1, c1, v2, v3, v4, v5, σ =>
    if v5 < σ c1 0 then
      if (z_shr v2 v5) &&& 1 = 0 then
        f4_leastFilled_L7 n c1 v2 v3 v4 (v5 + 1) σ
      else
        z_chk (z_in (v2 &&& ((z_shl 1 v5) ^^^ (-1))) 256) <|
        z_let (σ 114 (z_ix (v2 &&& ((z_shl 1 v5) ^^^ (-1))))) fun x2 =>
        z_chk (z_in v5 8) <|
        z_let ((z_rem x2 1000) + (σ (c1 + 20) (z_ix v5))) fun x4 =>
        if v3 < x4 then
          f4_leastFilled_J92 (f4_leastFilled_L7 n) c1 v2 v3 v4 v5 ((((x2 / 1000) + 1) * 1000) + (σ (c1 + 20) (z_ix v5))) σ
        else
          f4_leastFilled_J92 (f4_leastFilled_L7 n) c1 v2 v3 v4 v5 (x2 + (σ (c1 + 20) (z_ix v5))) σ
    else
      some (v4, σ)
def f4_leastFilled (c1 : Nat) (p2 : Int32) (p3 : Int32) (σ : z_M) : Option (Int32 × z_M) :=
  f4_leastFilled_L7 z_fu c1 p2 p3 256000 0 σ
def f4_fewest_J101 (v3 : Int32) (σ : z_M) : Option (Int32 × z_M) :=
  z_chk (z_in v3 256) <|
  some ((σ 114 (z_ix v3)) / 1000, σ)
def f4_fewest_L65 : Nat → Nat → Int32 → Int32 → Int32 → z_M → Option (Int32 × z_M)
  | 0, _, _, _, _, _ => none
  | n + 1, c1, v2, v3, v4, σ =>
    if v3 < v4 then
      f4_fewest_J101 v3 σ
    else
      if v4 &&& (v3 ^^^ (-1)) = 0 then
        z_bnd (f4_leastFilled c1 v4 v2 σ) fun r1 σ2 =>
        z_chk (z_in v4 256) <|
        z_let (z_set σ2 114 (z_ix v4) r1) fun σ4 =>
        f4_fewest_L65 n c1 v2 v3 (v4 + 1) σ4
      else
        f4_fewest_L65 n c1 v2 v3 (v4 + 1) σ
def f4_fewest_J55 (c1 : Nat) (v2 : Int32) (v3 : Int32) (σ : z_M) : Option (Int32 × z_M) :=
  z_chk (z_in 0 256) <|
  z_let (z_set σ 114 (z_ix 0) v2) fun σ2 =>
  f4_fewest_L65 z_fu c1 v2 v3 1 σ2
def f4_fewest_L5 : Nat → Nat → Int32 → Int32 → Int32 → z_M → Option (Int32 × z_M)
  | 0, _, _, _, _, _ => none
  | n + 1, c1, v2, v3, v4, σ =>
    if v4 < σ c1 0 then
      z_chk (z_in v4 8) <|
      if v2 < σ (c1 + 20) (z_ix v4) then
        some ((-1), σ)
      else
        z_bnd (f0_hasPot (c1 + 17) v4 σ) fun r2 σ3 =>
        if r2 = 0 then
          f4_fewest_L5 n c1 v2 v3 (v4 + 1) σ3
        else
          f4_fewest_L5 n c1 v2 (v3 ||| (z_shl 1 v4)) (v4 + 1) σ3
    else
      f4_fewest_J55 c1 v2 v3 σ
def f4_fewest (c1 : Nat) (p2 : Int32) (σ : z_M) : Option (Int32 × z_M) :=
  f4_fewest_L5 z_fu c1 p2 0 0 σ
def f11_greenhouses (p1 : Int32) (σ : z_M) : Option (Int32 × z_M) :=
  if p1 < 1 then
    some ((-1), σ)
  else
    if 999 < p1 then
      some ((-1), σ)
    else
      z_bnd (f4_fewest 1 p1 σ) fun r1 σ2 =>
      some (r1, σ2)
def f10_goBack_J27 (c1 : Nat) (s1 : Int32) (σ : z_M) : Option (Int32 × z_M) :=
  z_let (z_set σ 58 1 s1) fun σ1 =>
  z_let (z_set σ1 58 2 ((σ1 58 2) - 1)) fun σ2 =>
  z_chk (z_in (σ2 58 1) 6) <|
  z_bnd (f0_copyFrom c1 (60 + 6 * z_ix (σ2 58 1)) σ2) fun _ σ5 =>
  some (1, σ5)
def f10_goBack (c1 : Nat) (σ : z_M) : Option (Int32 × z_M) :=
  if σ 58 2 = 0 then
    some (0, σ)
  else
    if 0 < σ 58 1 then
      f10_goBack_J27 c1 ((σ 58 1) - 1) σ
    else
      f10_goBack_J27 c1 5 σ
def f11_undo (σ : z_M) : Option (Int32 × z_M) :=
  z_bnd (f10_goBack 18 σ) fun r1 σ2 =>
  z_chk (z_01 r1) <|
  some (r1, σ2)
def f1_copyFrom (c0 : Nat) (c1 : Nat) (σ : z_M) : Option (Unit × z_M) :=
  z_let (z_set σ c0 0 (σ c1 0)) fun σ1 =>
  z_let (z_set σ1 c0 1 (σ1 c1 1)) fun σ2 =>
  z_let (z_set σ2 c0 2 (σ2 c1 2)) fun σ3 =>
  z_let (z_set σ3 c0 3 (σ3 c1 3)) fun σ4 =>
  z_let (z_set σ4 c0 11 (σ4 c1 11)) fun σ5 =>
  z_chk (z_cok 8 0 8 0 8) <|
  z_let (z_cpy σ5 (c1 + 1) 0 (c0 + 1) 0 8) fun σ7 =>
  z_chk (z_cok 8 0 8 0 8) <|
  z_let (z_cpy σ7 (c1 + 2) 0 (c0 + 2) 0 8) fun σ9 =>
  z_chk (z_cok 36 0 36 0 36) <|
  z_let (z_cpy σ9 (c1 + 15) 0 (c0 + 15) 0 36) fun σ11 =>
  z_chk (z_cok 600 0 600 0 600) <|
  z_let (z_cpy σ11 (c1 + 16) 0 (c0 + 16) 0 600) fun σ13 =>
  z_bnd (f9_copyFrom (c0 + 3) (c1 + 3) σ13) fun _ σ15 =>
  z_bnd (f9_copyFrom (c0 + 6) (c1 + 6) σ15) fun _ σ17 =>
  z_bnd (f9_copyFrom (c0 + 9) (c1 + 9) σ17) fun _ σ19 =>
  z_bnd (f9_copyFrom (c0 + 12) (c1 + 12) σ19) fun _ σ21 =>
  z_bnd (f0_copyFrom (c0 + 17) (c1 + 17) σ21) fun _ σ23 =>
  some ((), σ23)
def f11_image (p1 : Int32) (σ : z_M) : Option (Int32 × z_M) :=
  if p1 = 0 then
    if σ 0 2 = 0 then
      some (0, σ)
    else
      z_bnd (f1_copyFrom 1 24 σ) fun _ σ2 =>
      z_bnd (f10_forget σ2) fun _ σ4 =>
      some (1, σ4)
  else
    z_bnd (f1_copyFrom 24 1 σ) fun _ σ6 =>
    z_let (z_set σ6 0 2 1) fun σ7 =>
    some (1, σ7)
def f1_pots_L4 : Nat → Nat → Int32 → Int32 → z_M → Option (Int32 × z_M)
  | 0, _, _, _, _ => none
  | n + 1, c0, v1, v2, σ =>
    if v2 < σ c0 0 then
      z_bnd (f0_hasPot (c0 + 17) v2 σ) fun r1 σ2 =>
      if r1 = 0 then
        f1_pots_L4 n c0 v1 (v2 + 1) σ2
      else
        f1_pots_L4 n c0 (v1 + 1) (v2 + 1) σ2
    else
      some (v1, σ)
def f1_pots (c0 : Nat) (σ : z_M) : Option (Int32 × z_M) :=
  f1_pots_L4 z_fu c0 0 0 σ
def f11_look (p1 : Int32) (σ : z_M) : Option (Int32 × z_M) :=
  if p1 = 0 then
    some (σ 1 0, σ)
  else
  if p1 = 1 then
    some (σ 18 6, σ)
  else
  if p1 = 2 then
    some (σ 18 7, σ)
  else
  if p1 = 3 then
    z_bnd (f1_pots 1 σ) fun r1 σ2 =>
    some (r1, σ2)
  else
  if p1 = 4 then
    some (σ 18 8, σ)
  else
  if p1 = 5 then
    some (σ 18 5, σ)
  else
  if p1 = 6 then
    z_bnd (f1_told 1 (p1 - 6) σ) fun r3 σ4 =>
    some (σ4 r3 2, σ4)
  else
  if p1 = 7 then
    z_bnd (f1_told 1 (p1 - 6) σ) fun r5 σ6 =>
    some (σ6 r5 2, σ6)
  else
  if p1 = 8 then
    z_bnd (f1_told 1 (p1 - 6) σ) fun r7 σ8 =>
    some (σ8 r7 2, σ8)
  else
  if p1 = 9 then
    z_bnd (f1_told 1 (p1 - 6) σ) fun r9 σ10 =>
    some (σ10 r9 2, σ10)
  else
  if p1 = 10 then
    some (σ 1 11, σ)
  else
  if p1 = 11 then
    some (σ 58 2, σ)
  else
  if p1 = 12 then
    some (σ 1 1, σ)
  else
  if p1 = 13 then
    some (σ 1 2, σ)
  else
  if p1 = 14 then
    some (σ 1 3, σ)
  else
  z_bnd (f11_isThing (p1 - 20) σ) fun r11 σ12 =>
  if r11 = 0 then
    some ((-1), σ12)
  else
    z_chk (z_in (p1 - 20) 8) <|
    some (σ12 2 (z_ix (p1 - 20)), σ12)
