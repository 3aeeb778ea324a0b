def f12_isIn_J14 (σ : z_M) : Option (Int32 × z_M) :=
  some (0, σ)
def f12_isIn (p1 : Int32) (p2 : Int32) (p3 : Int32) (σ : z_M) : Option (Int32 × z_M) :=
  if p1 < p2 then
    f12_isIn_J14 σ
  else
    if p3 < p1 then
      f12_isIn_J14 σ
    else
      some (1, σ)
def f12_held (p1 : Int32) (p2 : Int32) (p3 : Int32) (σ : z_M) : Option (Int32 × z_M) :=
  if p1 < p2 then
    some (p2, σ)
  else
    if p3 < p1 then
      some (p3, σ)
    else
      some (p1, σ)
def f12_greater (p1 : Int32) (p2 : Int32) (σ : z_M) : Option (Int32 × z_M) :=
  if p2 < p1 then
    some (p1, σ)
  else
    some (p2, σ)
def f12_onesOf_L4 : Nat → Int32 → Int32 → z_M → Option (Int32 × z_M)
  | 0, _, _, _ => none
  | n + 1, v2, v3, σ =>
    if v3 = 0 then
      some (v2, σ)
    else
      f12_onesOf_L4 n (v2 + 1) (v3 &&& (v3 - 1)) σ
def f12_onesOf (p1 : Int32) (σ : z_M) : Option (Int32 × z_M) :=
  f12_onesOf_L4 z_fu 0 p1 σ
def f12_keepsAhead_J87 (σ : z_M) : Option (Unit × z_M) :=
  z_let (z_set σ 0 3 ((σ 0 3) + 1)) fun σ1 =>
  some ((), σ1)
def f12_keepsAhead_L55 : Nat → Int32 → z_M → Option (Unit × z_M)
  | 0, _, _ => none
  | n + 1, v1, σ =>
    if v1 < 100 then
      z_chk (z_in v1 100) <|
      z_chk (z_in ((100 * (σ 0 3)) + v1) 600) <|
      z_let (z_set σ 2 (z_ix ((100 * (σ 0 3)) + v1)) (σ 1 (z_ix v1))) fun σ3 =>
      f12_keepsAhead_L55 n (v1 + 1) σ3
    else
      f12_keepsAhead_J87 σ
def f12_keepsAhead_J53 (σ : z_M) : Option (Unit × z_M) :=
  f12_keepsAhead_L55 z_fu 0 σ
def f12_keepsAhead_L21 : Nat → Int32 → z_M → Option (Unit × z_M)
  | 0, _, _ => none
  | n + 1, v1, σ =>
    if v1 < 100 * (σ 0 3) then
      z_chk (z_in (v1 + 100) 600) <|
      z_chk (z_in v1 600) <|
      z_let (z_set σ 2 (z_ix v1) (σ 2 (z_ix (v1 + 100)))) fun σ3 =>
      f12_keepsAhead_L21 n (v1 + 1) σ3
    else
      f12_keepsAhead_J53 σ
def f12_keepsAhead (σ : z_M) : Option (Unit × z_M) :=
  if σ 0 3 = 6 then
    z_let (z_set σ 0 3 ((σ 0 3) - 1)) fun σ1 =>
    f12_keepsAhead_L21 z_fu 0 σ1
  else
    f12_keepsAhead_J53 σ
def f12_undo_L26 : Nat → Int32 → z_M → Option (Int32 × z_M)
  | 0, _, _ => none
  | n + 1, v1, σ =>
    if v1 < 100 then
      z_chk (z_in ((100 * (σ 0 3)) + v1) 600) <|
      z_chk (z_in v1 100) <|
      z_let (z_set σ 1 (z_ix v1) (σ 2 (z_ix ((100 * (σ 0 3)) + v1)))) fun σ3 =>
      f12_undo_L26 n (v1 + 1) σ3
    else
      some (1, σ)
def f12_undo (σ : z_M) : Option (Int32 × z_M) :=
  z_let (z_set σ 0 0 0) fun σ1 =>
  if σ1 0 3 = 0 then
    some (0, σ1)
  else
    z_let (z_set σ1 0 3 ((σ1 0 3) - 1)) fun σ2 =>
    f12_undo_L26 z_fu 0 σ2
def f12_thinks_J26 (σ : z_M) : Option (Unit × z_M) :=
  z_let (z_set σ 0 5 1) fun σ1 =>
  some ((), σ1)
def f12_thinks_L2 : Nat → Int32 → z_M → Option (Unit × z_M)
  | 0, _, _ => none
  | n + 1, v1, σ =>
    if v1 < 100 then
      z_chk (z_in v1 100) <|
      z_chk (z_in v1 100) <|
      z_let (z_set σ 3 (z_ix v1) (σ 1 (z_ix v1))) fun σ3 =>
      f12_thinks_L2 n (v1 + 1) σ3
    else
      f12_thinks_J26 σ
def f12_thinks (σ : z_M) : Option (Unit × z_M) :=
  f12_thinks_L2 z_fu 0 σ
def f12_thinksAnew_L2 : Nat → Int32 → z_M → Option (Unit × z_M)
  | 0, _, _ => none
  | n + 1, v1, σ =>
    if v1 < 100 then
      z_chk (z_in v1 100) <|
      z_chk (z_in v1 100) <|
      z_let (z_set σ 1 (z_ix v1) (σ 3 (z_ix v1))) fun σ3 =>
      f12_thinksAnew_L2 n (v1 + 1) σ3
    else
      some ((), σ)
def f12_thinksAnew (σ : z_M) : Option (Unit × z_M) :=
  f12_thinksAnew_L2 z_fu 0 σ
def f12_endsThought (σ : z_M) : Option (Unit × z_M) :=
  z_bnd (f12_thinksAnew σ) fun _ σ2 =>
  z_let (z_set σ2 0 5 0) fun σ3 =>
  some ((), σ3)
def f12_state (p1 : Int32) (σ : z_M) : Option (Int32 × z_M) :=
  z_let (z_set σ 0 0 0) fun σ1 =>
  z_chk (z_in 1 100) <|
  z_chk (z_in 1 100) <|
  z_let (z_set σ1 1 (z_ix 1) p1) fun σ4 =>
  z_let (z_set σ4 0 3 0) fun σ5 =>
  some (σ1 1 (z_ix 1), σ5)
def f12_draw (p1 : Int32) (σ : z_M) : Option (Int32 × z_M) :=
  z_chk (z_in 1 100) <|
  z_chk (z_in 1 100) <|
  z_let (z_set σ 1 (z_ix 1) ((1664525 * (σ 1 (z_ix 1))) + 1013904223)) fun σ3 =>
  z_chk (z_in 1 100) <|
  z_chk (!decide (p1 = 0)) <|
  some (z_rem (z_ushr (σ3 1 (z_ix 1)) 8) p1, σ3)
def f12_most (σ : z_M) : Option (Int32 × z_M) :=
  some ((σ 0 7) + 3, σ)
def f12_isHouse_J16 (σ : z_M) : Option (Int32 × z_M) :=
  some (0, σ)
def f12_isHouse (p1 : Int32) (σ : z_M) : Option (Int32 × z_M) :=
  if p1 < 0 then
    f12_isHouse_J16 σ
  else
    if p1 < σ 0 6 then
      some (1, σ)
    else
      f12_isHouse_J16 σ
def f12_isThing_J14 (σ : z_M) : Option (Int32 × z_M) :=
  some (0, σ)
def f12_isThing (p1 : Int32) (σ : z_M) : Option (Int32 × z_M) :=
  if p1 < 0 then
    f12_isThing_J14 σ
  else
    if p1 < 8 then
      some (1, σ)
    else
      f12_isThing_J14 σ
def f12_degreeOf (p1 : Int32) (p2 : Int32) (σ : z_M) : Option (Int32 × z_M) :=
  z_chk (z_in ((4 + (8 * p1)) + p2) 100) <|
  some ((σ 1 (z_ix ((4 + (8 * p1)) + p2))) + 50, σ)
def f12_degreeBe (p1 : Int32) (p2 : Int32) (p3 : Int32) (σ : z_M) : Option (Unit × z_M) :=
  z_chk (z_in ((4 + (8 * p1)) + p2) 100) <|
  z_let (z_set σ 1 (z_ix ((4 + (8 * p1)) + p2)) (p3 - 50)) fun σ2 =>
  some ((), σ2)
def f12_suresOf_L4 : Nat → Int32 → Int32 → Int32 → z_M → Option (Int32 × z_M)
  | 0, _, _, _, _ => none
  | n + 1, v1, v2, v3, σ =>
    if v3 < 8 then
      z_bnd (f12_degreeOf v1 v3 σ) fun r1 σ2 =>
      if r1 < 90 then
        f12_suresOf_L4 n v1 v2 (v3 + 1) σ2
      else
        f12_suresOf_L4 n v1 (v2 ||| (z_shl 1 v3)) (v3 + 1) σ2
    else
      some (v2, σ)
def f12_suresOf (p1 : Int32) (σ : z_M) : Option (Int32 × z_M) :=
  f12_suresOf_L4 z_fu p1 0 0 σ
def f12_potOf (p1 : Int32) (σ : z_M) : Option (Int32 × z_M) :=
  z_chk (z_in (68 + p1) 100) <|
  some ((σ 1 (z_ix (68 + p1))) - 1, σ)
def f12_house_J85 (v1 : Int32) (σ : z_M) : Option (Int32 × z_M) :=
  z_chk (z_in v1 8) <|
  z_let (z_set σ 5 (z_ix v1) 0) fun σ2 =>
  z_let (z_set σ2 0 6 ((σ2 0 6) + 1)) fun σ3 =>
  z_let (z_set σ3 0 3 0) fun σ4 =>
  some (v1, σ4)
def f12_house_L55 : Nat → Int32 → Int32 → z_M → Option (Int32 × z_M)
  | 0, _, _, _ => none
  | n + 1, v1, v2, σ =>
    if v2 < 8 then
      z_chk (z_in v2 8) <|
      z_chk (z_in v2 8) <|
      z_let (z_set σ 5 (z_ix v2) ((σ 5 (z_ix v2)) &&& ((z_shl 1 v1) ^^^ (-1)))) fun σ3 =>
      f12_house_L55 n v1 (v2 + 1) σ3
    else
      f12_house_J85 v1 σ
def f12_house_J43 (v1 : Int32) (σ : z_M) : Option (Int32 × z_M) :=
  z_chk (z_in (68 + v1) 100) <|
  z_let (z_set σ 1 (z_ix (68 + v1)) 0) fun σ2 =>
  f12_house_L55 z_fu v1 0 σ2
def f12_house_L23 : Nat → Int32 → Int32 → z_M → Option (Int32 × z_M)
  | 0, _, _, _ => none
  | n + 1, v1, v2, σ =>
    if v2 < 8 then
      z_bnd (f12_degreeBe v1 v2 50 σ) fun _ σ2 =>
      f12_house_L23 n v1 (v2 + 1) σ2
    else
      f12_house_J43 v1 σ
def f12_house (σ : z_M) : Option (Int32 × z_M) :=
  z_let (z_set σ 0 0 0) fun σ1 =>
  if σ1 0 6 = 8 then
    some ((-1), σ1)
  else
    f12_house_L23 z_fu (σ1 0 6) 0 σ1
def f12_set_J103 (σ : z_M) : Option (Int32 × z_M) :=
  z_let (z_set σ 0 3 0) fun σ1 =>
  some (1, σ1)
def f12_set_J91 (v1 : Int32) (v2 : Int32) (v3 : Int32) (σ : z_M) : Option (Int32 × z_M) :=
  if v1 = 3 then
    z_chk (z_in v2 8) <|
    z_let (z_set σ 4 (z_ix v2) v3) fun σ2 =>
    f12_set_J103 σ2
  else
    f12_set_J103 σ
def f12_set_J81 (v1 : Int32) (v2 : Int32) (v3 : Int32) (σ : z_M) : Option (Int32 × z_M) :=
  if v1 = 2 then
    z_let (z_set σ 0 9 v3) fun σ1 =>
    f12_set_J91 v1 v2 v3 σ1
  else
    f12_set_J91 v1 v2 v3 σ
def f12_set_J71 (v1 : Int32) (v2 : Int32) (v3 : Int32) (σ : z_M) : Option (Int32 × z_M) :=
  if v1 = 1 then
    z_let (z_set σ 0 8 v3) fun σ1 =>
    f12_set_J81 v1 v2 v3 σ1
  else
    f12_set_J81 v1 v2 v3 σ
def f12_set_J60 (v1 : Int32) (v2 : Int32) (v3 : Int32) (σ : z_M) : Option (Int32 × z_M) :=
  if v1 = 0 then
    z_let (z_set σ 0 7 (v3 - 3)) fun σ1 =>
    f12_set_J71 v1 v2 v3 σ1
  else
    f12_set_J71 v1 v2 v3 σ
def f12_set_J39 (v1 : Int32) (v2 : Int32) (v3 : Int32) (s1 : Int32) (s2 : Int32) (s3 : Int32) (σ : z_M) : Option (Int32 × z_M) :=
  z_bnd (f12_isIn s1 s2 s3 σ) fun r1 σ2 =>
  if r1 = 0 then
    some (0, σ2)
  else
    if v1 = 3 then
      z_bnd (f12_isThing v2 σ2) fun r3 σ4 =>
      if r3 = 0 then
        some (0, σ4)
      else
        f12_set_J60 v1 v2 v3 σ4
    else
      f12_set_J60 v1 v2 v3 σ2
def f12_set (p1 : Int32) (p2 : Int32) (p3 : Int32) (σ : z_M) : Option (Int32 × z_M) :=
  z_let (z_set σ 0 0 0) fun σ1 =>
  z_bnd (f12_isIn p1 0 3 σ1) fun r2 σ3 =>
  if r2 = 0 then
    some (0, σ3)
  else
    if p1 = 0 then
      f12_set_J39 p1 p2 p3 p3 0 8 σ3
    else
      if p1 = 3 then
        f12_set_J39 p1 p2 p3 p3 0 5 σ3
      else
        f12_set_J39 p1 p2 p3 p3 0 1000 σ3
def f12_line_J97 (s1 : Int32) (s2 : Int32) (σ : z_M) : Option (Int32 × z_M) :=
  z_chk (z_in s1 8) <|
  z_let (z_set σ 5 (z_ix s1) s2) fun σ2 =>
  z_let (z_set σ2 0 3 0) fun σ3 =>
  some (1, σ3)
def f12_line_J62 (v1 : Int32) (v2 : Int32) (v3 : Int32) (s1 : Int32) (s2 : Int32) (σ : z_M) : Option (Int32 × z_M) :=
  z_chk (z_in s1 8) <|
  z_let (z_set σ 5 (z_ix s1) s2) fun σ2 =>
  if v3 = 0 then
    z_chk (z_in v2 8) <|
    f12_line_J97 v2 ((σ2 5 (z_ix v2)) &&& ((z_shl 1 v1) ^^^ (-1))) σ2
  else
    z_chk (z_in v2 8) <|
    f12_line_J97 v2 ((σ2 5 (z_ix v2)) ||| (z_shl 1 v1)) σ2
def f12_line (p1 : Int32) (p2 : Int32) (p3 : Int32) (σ : z_M) : Option (Int32 × z_M) :=
  z_let (z_set σ 0 0 0) fun σ1 =>
  z_bnd (f12_isHouse p1 σ1) fun r2 σ3 =>
  if r2 = 0 then
    some (0, σ3)
  else
    z_bnd (f12_isHouse p2 σ3) fun r4 σ5 =>
    if r4 = 0 then
      some (0, σ5)
    else
      if p1 = p2 then
        some (0, σ5)
      else
        if p3 = 0 then
          z_chk (z_in p1 8) <|
          f12_line_J62 p1 p2 p3 p1 ((σ5 5 (z_ix p1)) &&& ((z_shl 1 p2) ^^^ (-1))) σ5
        else
          z_chk (z_in p1 8) <|
          f12_line_J62 p1 p2 p3 p1 ((σ5 5 (z_ix p1)) ||| (z_shl 1 p2)) σ5
def f12_types_L3 : Nat → Int32 → Int32 → z_M → Option (Unit × z_M)
  | 0, _, _, _ => none
  | n + 1, v1, v2, σ =>
    if v2 < 0 then
      some ((), σ)
    else
      z_chk (z_in (σ 0 14) 400) <|
      z_let (z_set σ 7 (z_ix (σ 0 14)) ((z_shr v1 v2) &&& 255)) fun σ2 =>
      z_let (z_set σ2 0 14 ((σ2 0 14) + 1)) fun σ3 =>
      f12_types_L3 n v1 (v2 + (-8)) σ3
def f12_types (p1 : Int32) (σ : z_M) : Option (Unit × z_M) :=
  f12_types_L3 z_fu p1 24 σ
def f12_feed (p1 : Int32) (p2 : Int32) (p3 : Int32) (p4 : Int32) (p5 : Int32) (σ : z_M) : Option (Int32 × z_M) :=
  z_let (z_set σ 0 0 0) fun σ1 =>
  if 380 < σ1 0 14 then
    some ((-1), σ1)
  else
    z_bnd (f12_types p1 σ1) fun _ σ3 =>
    z_bnd (f12_types p2 σ3) fun _ σ5 =>
    z_bnd (f12_types p3 σ5) fun _ σ7 =>
    z_bnd (f12_types p4 σ7) fun _ σ9 =>
    z_bnd (f12_types p5 σ9) fun _ σ11 =>
    some (σ11 0 14, σ11)
def f12_end (p1 : Int32) (σ : z_M) : Option (Int32 × z_M) :=
  z_let (z_set σ 0 0 0) fun σ1 =>
  z_bnd (f12_isIn p1 0 (σ1 0 14) σ1) fun r2 σ3 =>
  if r2 = 0 then
    some (0, σ3)
  else
    z_let (z_set σ3 0 14 p1) fun σ4 =>
    some (1, σ4)
def f12_raw (p1 : Int32) (σ : z_M) : Option (Int32 × z_M) :=
  if p1 < σ 0 14 then
    z_chk (z_in p1 400) <|
    some (σ 7 (z_ix p1), σ)
  else
    some ((-1), σ)
def f12_isLetter (p1 : Int32) (σ : z_M) : Option (Int32 × z_M) :=
  z_bnd (f12_isIn p1 97 122 σ) fun r1 σ2 =>
  if r1 = 0 then
    z_bnd (f12_isIn p1 65 90 σ2) fun r3 σ4 =>
    if r3 = 0 then
      some (0, σ4)
    else
      some (1, σ4)
  else
    some (1, σ2)
def f12_isDigit (p1 : Int32) (σ : z_M) : Option (Int32 × z_M) :=
  z_bnd (f12_isIn p1 48 57 σ) fun r1 σ2 =>
  z_chk (z_01 r1) <|
  some (r1, σ2)
def f12_isMarkSign (p1 : Int32) (σ : z_M) : Option (Int32 × z_M) :=
  if p1 = 59 then
    some (1, σ)
  else
    if p1 = 43 then
      some (1, σ)
    else
      if p1 = 45 then
        some (1, σ)
      else
        if p1 = 42 then
          some (1, σ)
        else
          if p1 = 47 then
            some (1, σ)
          else
            if p1 = 40 then
              some (1, σ)
            else
              if p1 = 41 then
                some (1, σ)
              else
                if p1 = 60 then
                  some (1, σ)
                else
                  if p1 = 61 then
                    some (1, σ)
                  else
                    if p1 = 62 then
                      some (1, σ)
                    else
                      some (0, σ)
def f12_wordAt_J115 (k5 : Int32 → Int32 → Int32 → Int32 → z_M → Option (Int32 × z_M)) (v1 : Int32) (v2 : Int32) (v3 : Int32) (v4 : Int32) (σ : z_M) : Option (Int32 × z_M) :=
  k5 v1 v2 v3 v4 σ
def f12_wordAt_L94 (k5 : Int32 → Int32 → Int32 → Int32 → z_M → Option (Int32 × z_M)) : Nat → Int32 → Int32 → Int32 → Int32 → z_M → Option (Int32 × z_M)
  | 0, _, _, _, _, _ => none
  | n + 1, v1, v2, v3, v4, σ =>
    z_chk (z_in v4 145) <|
    if σ 8 (z_ix v4) = 32 then
      f12_wordAt_J115 k5 v1 v2 v3 v4 σ
    else
      f12_wordAt_L94 k5 n v1 v2 v3 (v4 + 1) σ
def f12_wordAt_J88 (k5 : Int32 → Int32 → Int32 → Int32 → z_M → Option (Int32 × z_M)) (v1 : Int32) (v2 : Int32) (v3 : Int32) (v4 : Int32) (σ : z_M) : Option (Int32 × z_M) :=
  f12_wordAt_L94 k5 z_fu v1 v2 v3 (v4 + 1) σ
def f12_wordAt_J61 (k5 : Int32 → Int32 → Int32 → Int32 → z_M → Option (Int32 × z_M)) (v1 : Int32) (v2 : Int32) (v3 : Int32) (v4 : Int32) (v5 : Int32) (σ : z_M) : Option (Int32 × z_M) :=
  if v1 + v5 = v2 then
    z_chk (z_in ((v4 + 1) + v5) 145) <|
    if σ 8 (z_ix ((v4 + 1) + v5)) = 32 then
      some (v3, σ)
    else
      f12_wordAt_J88 k5 v1 v2 v3 v4 σ
  else
    f12_wordAt_J88 k5 v1 v2 v3 v4 σ
def f12_wordAt_L20 (k5 : Int32 → Int32 → Int32 → Int32 → z_M → Option (Int32 × z_M)) : Nat → Int32 → Int32 → Int32 → Int32 → Int32 → z_M → Option (Int32 × z_M)
  | 0, _, _, _, _, _, _ => none
  | n + 1, v1, v2, v3, v4, v5, σ =>
    if v1 + v5 < v2 then
      z_chk (z_in ((v4 + 1) + v5) 145) <|
      z_chk (z_in (v1 + v5) 400) <|
      if σ 8 (z_ix ((v4 + 1) + v5)) = σ 7 (z_ix (v1 + v5)) then
        f12_wordAt_L20 k5 n v1 v2 v3 v4 (v5 + 1) σ
      else
        f12_wordAt_J61 k5 v1 v2 v3 v4 v5 σ
    else
      f12_wordAt_J61 k5 v1 v2 v3 v4 v5 σ
def f12_wordAt_L5 : Nat → Int32 → Int32 → Int32 → Int32 → z_M → Option (Int32 × z_M)
  | 0, _, _, _, _, _ => none
  | n + 1, v1, v2, v3, v4, σ =>
    if v4 < 144 then
      f12_wordAt_L20 (f12_wordAt_L5 n) z_fu v1 v2 (v3 + 1) v4 0 σ
    else
      some ((-1), σ)
def f12_wordAt (p1 : Int32) (p2 : Int32) (σ : z_M) : Option (Int32 × z_M) :=
  f12_wordAt_L5 z_fu p1 p2 (-1) 0 σ
def f12_reads_J26 (k0 : z_M → Option (Unit × z_M)) (σ : z_M) : Option (Unit × z_M) :=
  z_let (z_set σ 0 15 ((σ 0 15) + 1)) fun σ1 =>
  k0 σ1
def f12_reads_J239 (σ : z_M) : Option (Unit × z_M) :=
  if (σ 0 15) - (σ 0 16) < 5 then
    z_let (z_set σ 0 17 3) fun σ1 =>
    some ((), σ1)
  else
    some ((), σ)
def f12_reads_J223 (k171 : z_M → Option (Unit × z_M)) (s1 : Int32) (σ : z_M) : Option (Unit × z_M) :=
  z_let (z_set σ 0 18 s1) fun σ1 =>
  z_let (z_set σ1 0 15 ((σ1 0 15) + 1)) fun σ2 =>
  k171 σ2
def f12_reads_L171 : Nat → z_M → Option (Unit × z_M)
  | 0, _ => none
  | n + 1, σ =>
    z_bnd (f12_raw (σ 0 15) σ) fun r1 σ2 =>
    z_bnd (f12_isDigit r1 σ2) fun r3 σ4 =>
    if r3 = 0 then
      f12_reads_J239 σ4
    else
      if σ4 0 18 < 10000 then
        z_bnd (f12_raw (σ4 0 15) σ4) fun r5 σ6 =>
        f12_reads_J223 (f12_reads_L171 n) (((10 * (σ4 0 18)) + r5) - 48) σ6
      else
        f12_reads_J223 (f12_reads_L171 n) (σ4 0 18) σ4
def f12_reads_J123 (σ : z_M) : Option (Unit × z_M) :=
  z_bnd (f12_wordAt (σ 0 16) (σ 0 15) σ) fun r1 σ2 =>
  z_let (z_set σ2 0 18 r1) fun σ3 =>
  if σ3 0 18 = (-1) then
    some ((), σ3)
  else
    z_let (z_set σ3 0 17 2) fun σ4 =>
    some ((), σ4)
def f12_reads_L95 : Nat → z_M → Option (Unit × z_M)
  | 0, _ => none
  | n + 1, σ =>
    z_bnd (f12_raw (σ 0 15) σ) fun r1 σ2 =>
    z_bnd (f12_isLetter r1 σ2) fun r3 σ4 =>
    if r3 = 0 then
      f12_reads_J123 σ4
    else
      z_let (z_set σ4 0 15 ((σ4 0 15) + 1)) fun σ5 =>
      f12_reads_L95 n σ5
def f12_reads_J39 (σ : z_M) : Option (Unit × z_M) :=
  z_let (z_set σ 0 16 (σ 0 15)) fun σ1 =>
  z_let (z_set σ1 0 17 1) fun σ2 =>
  z_bnd (f12_raw (σ2 0 15) σ2) fun r3 σ4 =>
  if r3 = (-1) then
    z_let (z_set σ4 0 17 0) fun σ15 =>
    some ((), σ15)
  else
    z_let (z_set σ4 0 15 ((σ4 0 15) + 1)) fun σ5 =>
    z_let (z_set σ5 0 18 r3) fun σ6 =>
    z_bnd (f12_isLetter r3 σ6) fun r7 σ8 =>
    if r7 = 0 then
      z_bnd (f12_isDigit r3 σ8) fun r9 σ10 =>
      if r9 = 0 then
        z_bnd (f12_isMarkSign r3 σ10) fun r11 σ12 =>
        if r11 = 0 then
          some ((), σ12)
        else
          z_let (z_set σ12 0 17 4) fun σ13 =>
          some ((), σ13)
      else
        z_let (z_set σ10 0 18 (r3 - 48)) fun σ14 =>
        f12_reads_L171 z_fu σ14
    else
      f12_reads_L95 z_fu σ8
def f12_reads_L0 : Nat → z_M → Option (Unit × z_M)
  | 0, _ => none
  | n + 1, σ =>
    z_bnd (f12_raw (σ 0 15) σ) fun r1 σ2 =>
    if r1 = 32 then
      f12_reads_J26 (f12_reads_L0 n) σ2
    else
      z_bnd (f12_raw (σ2 0 15) σ2) fun r3 σ4 =>
      if r3 = 10 then
        f12_reads_J26 (f12_reads_L0 n) σ4
      else
        f12_reads_J39 σ4
def f12_reads (σ : z_M) : Option (Unit × z_M) :=
  f12_reads_L0 z_fu σ
def f12_errs (p1 : Int32) (σ : z_M) : Option (Int32 × z_M) :=
  z_let (z_set σ 0 32 p1) fun σ1 =>
  z_let (z_set σ1 0 33 (σ1 0 16)) fun σ2 =>
  some ((-1), σ2)
def f12_isWord_J20 (σ : z_M) : Option (Int32 × z_M) :=
  some (0, σ)
def f12_isWord (p1 : Int32) (σ : z_M) : Option (Int32 × z_M) :=
  if σ 0 17 = 2 then
    if σ 0 18 = p1 then
      some (1, σ)
    else
      f12_isWord_J20 σ
  else
    f12_isWord_J20 σ
def f12_isSign_J20 (σ : z_M) : Option (Int32 × z_M) :=
  some (0, σ)
def f12_isSign (p1 : Int32) (σ : z_M) : Option (Int32 × z_M) :=
  if σ 0 17 = 4 then
    if σ 0 18 = p1 then
      some (1, σ)
    else
      f12_isSign_J20 σ
  else
    f12_isSign_J20 σ
def f12_emits (p1 : Int32) (p2 : Int32) (σ : z_M) : Option (Unit × z_M) :=
  z_chk (z_in (800 + (σ 0 28)) 1200) <|
  z_let (z_set σ 14 (z_ix (800 + (σ 0 28))) p1) fun σ2 =>
  z_chk (z_in (800 + (σ2 0 28)) 1200) <|
  z_let (z_set σ2 15 (z_ix (800 + (σ2 0 28))) p2) fun σ4 =>
  z_let (z_set σ4 0 28 ((σ4 0 28) + 1)) fun σ5 =>
  some ((), σ5)
def f12_canAsk (p1 : Int32) (σ : z_M) : Option (Int32 × z_M) :=
  z_bnd (f12_isIn p1 7 14 σ) fun r1 σ2 =>
  z_chk (z_01 r1) <|
  some (r1, σ2)
def f12_readUnit_J71 (s1 : Int32) (s2 : Int32) (σ : z_M) : Option (Int32 × z_M) :=
  z_bnd (f12_emits s1 s2 σ) fun _ σ2 =>
  z_bnd (f12_reads σ2) fun _ σ4 =>
  some (0, σ4)
def f12_readUnit_J53 (v1 : Int32) (s1 : Int32) (σ : z_M) : Option (Int32 × z_M) :=
  if v1 = 0 then
    f12_readUnit_J71 s1 (σ 0 18) σ
  else
    f12_readUnit_J71 s1 ((σ 0 18) - 7) σ
def f12_readUnit_J43 (v1 : Int32) (σ : z_M) : Option (Int32 × z_M) :=
  if v1 = 0 then
    f12_readUnit_J53 v1 0 σ
  else
    f12_readUnit_J53 v1 1 σ
def f12_readUnit_J24 (s0 : Int32) (σ : z_M) : Option (Int32 × z_M) :=
  if s0 = 0 then
    if σ 0 17 = 3 then
      f12_readUnit_J43 s0 σ
    else
      z_bnd (f12_errs 1 σ) fun r1 σ2 =>
      some (r1, σ2)
  else
    f12_readUnit_J43 s0 σ
def f12_readUnit_J23 (σ : z_M) : Option (Int32 × z_M) :=
  f12_readUnit_J24 0 σ
def f12_readUnit (σ : z_M) : Option (Int32 × z_M) :=
  if σ 0 17 = 2 then
    z_bnd (f12_canAsk (σ 0 18) σ) fun r1 σ2 =>
    if r1 = 0 then
      f12_readUnit_J23 σ2
    else
      f12_readUnit_J24 1 σ2
  else
    f12_readUnit_J23 σ
def f12_readProduct_J68 (σ : z_M) : Option (Int32 × z_M) :=
  z_bnd (f12_errs 2 σ) fun r1 σ2 =>
  some (r1, σ2)
def f12_readProduct_J94 (k10 : z_M → Option (Int32 × z_M)) (s1 : Int32) (σ : z_M) : Option (Int32 × z_M) :=
  z_bnd (f12_emits s1 0 σ) fun _ σ2 =>
  k10 σ2
def f12_readProduct_J74 (k10 : z_M → Option (Int32 × z_M)) (v1 : Int32) (σ : z_M) : Option (Int32 × z_M) :=
  z_bnd (f12_readUnit σ) fun r1 σ2 =>
  if r1 = (-1) then
    some ((-1), σ2)
  else
    if v1 = 0 then
      f12_readProduct_J94 k10 5 σ2
    else
      f12_readProduct_J94 k10 4 σ2
def f12_readProduct_J57 (k10 : z_M → Option (Int32 × z_M)) (v1 : Int32) (σ : z_M) : Option (Int32 × z_M) :=
  if v1 = 0 then
    if σ 0 18 = 0 then
      f12_readProduct_J68 σ
    else
      f12_readProduct_J74 k10 v1 σ
  else
    f12_readProduct_J74 k10 v1 σ
def f12_readProduct_J51 (σ : z_M) : Option (Int32 × z_M) :=
  z_bnd (f12_errs 1 σ) fun r1 σ2 =>
  some (r1, σ2)
def f12_readProduct_J28 (k10 : z_M → Option (Int32 × z_M)) (σ : z_M) : Option (Int32 × z_M) :=
  z_bnd (f12_isSign 42 σ) fun r1 σ2 =>
  z_bnd (f12_reads σ2) fun _ σ4 =>
  if r1 = 0 then
    if σ4 0 17 = 3 then
      f12_readProduct_J57 k10 r1 σ4
    else
      f12_readProduct_J51 σ4
  else
    f12_readProduct_J57 k10 r1 σ4
def f12_readProduct_L10 : Nat → z_M → Option (Int32 × z_M)
  | 0, _ => none
  | n + 1, σ =>
    z_bnd (f12_isSign 42 σ) fun r1 σ2 =>
    if r1 = 0 then
      z_bnd (f12_isSign 47 σ2) fun r3 σ4 =>
      if r3 = 0 then
        some (0, σ4)
      else
        f12_readProduct_J28 (f12_readProduct_L10 n) σ4
    else
      f12_readProduct_J28 (f12_readProduct_L10 n) σ2
def f12_readProduct (σ : z_M) : Option (Int32 × z_M) :=
  z_bnd (f12_readUnit σ) fun r1 σ2 =>
  if r1 = (-1) then
    some ((-1), σ2)
  else
    f12_readProduct_L10 z_fu σ2
def f12_readSum_J42 (k10 : z_M → Option (Int32 × z_M)) (s0 : Int32) (σ : z_M) : Option (Int32 × z_M) :=
  z_bnd (f12_reads σ) fun _ σ2 =>
  z_bnd (f12_readProduct σ2) fun r3 σ4 =>
  if r3 = (-1) then
    some ((-1), σ4)
  else
    z_bnd (f12_emits s0 0 σ4) fun _ σ6 =>
    k10 σ6
def f12_readSum_J28 (k10 : z_M → Option (Int32 × z_M)) (σ : z_M) : Option (Int32 × z_M) :=
  if σ 0 18 = 43 then
    f12_readSum_J42 k10 2 σ
  else
    f12_readSum_J42 k10 3 σ
def f12_readSum_L10 : Nat → z_M → Option (Int32 × z_M)
  | 0, _ => none
  | n + 1, σ =>
    z_bnd (f12_isSign 43 σ) fun r1 σ2 =>
    if r1 = 0 then
      z_bnd (f12_isSign 45 σ2) fun r3 σ4 =>
      if r3 = 0 then
        some (0, σ4)
      else
        f12_readSum_J28 (f12_readSum_L10 n) σ4
    else
      f12_readSum_J28 (f12_readSum_L10 n) σ2
def f12_readSum (σ : z_M) : Option (Int32 × z_M) :=
  z_bnd (f12_readProduct σ) fun r1 σ2 =>
  if r1 = (-1) then
    some ((-1), σ2)
  else
    f12_readSum_L10 z_fu σ2
def f12_readCompared_J73 (s0 : Int32) (σ : z_M) : Option (Int32 × z_M) :=
  z_bnd (f12_reads σ) fun _ σ2 =>
  z_bnd (f12_readSum σ2) fun r3 σ4 =>
  if r3 = (-1) then
    some ((-1), σ4)
  else
    z_bnd (f12_emits s0 0 σ4) fun _ σ6 =>
    some (0, σ6)
def f12_readCompared_J43 (σ : z_M) : Option (Int32 × z_M) :=
  if σ 0 18 = 60 then
    f12_readCompared_J73 6 σ
  else
    if σ 0 18 = 61 then
      f12_readCompared_J73 7 σ
    else
      f12_readCompared_J73 8 σ
def f12_readCompared (σ : z_M) : Option (Int32 × z_M) :=
  z_bnd (f12_readSum σ) fun r1 σ2 =>
  if r1 = (-1) then
    some ((-1), σ2)
  else
    z_bnd (f12_isSign 60 σ2) fun r3 σ4 =>
    if r3 = 0 then
      z_bnd (f12_isSign 61 σ4) fun r5 σ6 =>
      if r5 = 0 then
        z_bnd (f12_isSign 62 σ6) fun r7 σ8 =>
        if r7 = 0 then
          z_bnd (f12_errs 1 σ8) fun r9 σ10 =>
          some (r9, σ10)
        else
          f12_readCompared_J43 σ8
      else
        f12_readCompared_J43 σ6
    else
      f12_readCompared_J43 σ4
def f12_waits (p1 : Int32) (σ : z_M) : Option (Unit × z_M) :=
  z_chk (z_in (σ 0 31) 40) <|
  z_let (z_set σ 16 (z_ix (σ 0 31)) p1) fun σ2 =>
  z_let (z_set σ2 0 31 ((σ2 0 31) + 1)) fun σ3 =>
  some ((), σ3)
def f12_settles_L0 : Nat → Int32 → z_M → Option (Unit × z_M)
  | 0, _, _ => none
  | n + 1, v1, σ =>
    if 0 < σ 0 31 then
      z_chk (z_in ((σ 0 31) - 1) 40) <|
      if σ 16 (z_ix ((σ 0 31) - 1)) = v1 then
        z_let (z_set σ 0 31 ((σ 0 31) - 1)) fun σ2 =>
        z_bnd (f12_emits v1 0 σ2) fun _ σ4 =>
        if v1 = 9 then
          z_let (z_set σ4 0 29 ((σ4 0 29) - 1)) fun σ5 =>
          f12_settles_L0 n v1 σ5
        else
          f12_settles_L0 n v1 σ4
      else
        some ((), σ)
    else
      some ((), σ)
def f12_settles (p1 : Int32) (σ : z_M) : Option (Unit × z_M) :=
  f12_settles_L0 z_fu p1 σ
def f12_readAny_J200 (σ : z_M) : Option (Int32 × z_M) :=
  z_bnd (f12_errs 1 σ) fun r1 σ2 =>
  some (r1, σ2)
def f12_readAny_J42 (σ : z_M) : Option (Int32 × z_M) :=
  z_bnd (f12_errs 3 σ) fun r1 σ2 =>
  some (r1, σ2)
def f12_readAny_J78 (k9 : Int32 → Int32 → z_M → Option (Int32 × z_M)) (v1 : Int32) (v2 : Int32) (s1 : Int32) (σ : z_M) : Option (Int32 × z_M) :=
  z_bnd (f12_waits s1 σ) fun _ σ2 =>
  z_bnd (f12_reads σ2) fun _ σ4 =>
  k9 v1 v2 σ4
def f12_readAny_J66 (k9 : Int32 → Int32 → z_M → Option (Int32 × z_M)) (v1 : Int32) (v2 : Int32) (v3 : Int32) (σ : z_M) : Option (Int32 × z_M) :=
  if v3 = 0 then
    f12_readAny_J78 k9 v1 v2 12 σ
  else
    f12_readAny_J78 k9 v1 v2 9 σ
def f12_readAny_J33 (k9 : Int32 → Int32 → z_M → Option (Int32 × z_M)) (v1 : Int32) (v2 : Int32) (v3 : Int32) (σ : z_M) : Option (Int32 × z_M) :=
  if σ 0 29 = 8 then
    f12_readAny_J42 σ
  else
    z_let (z_set σ 0 29 ((σ 0 29) + 1)) fun σ1 =>
    if v3 = 0 then
      f12_readAny_J66 k9 (v1 + 1) v2 v3 σ1
    else
      f12_readAny_J66 k9 v1 v2 v3 σ1
def f12_readAny_L9 : Nat → Int32 → Int32 → z_M → Option (Int32 × z_M)
  | 0, _, _, _ => none
  | n + 1, v1, v2, σ =>
    if v2 = 0 then
      z_bnd (f12_isWord 5 σ) fun r1 σ2 =>
      if r1 = 0 then
        z_bnd (f12_isWord 4 σ2) fun r3 σ4 =>
        if r3 = 0 then
          z_bnd (f12_settles 10 σ4) fun _ σ6 =>
          z_bnd (f12_settles 11 σ6) fun _ σ8 =>
          if v1 = 0 then
            some (0, σ8)
          else
            z_bnd (f12_isSign 41 σ8) fun r9 σ10 =>
            if r9 = 0 then
              f12_readAny_J200 σ10
            else
              z_let (z_set σ10 0 31 ((σ10 0 31) - 1)) fun σ11 =>
              z_let (z_set σ11 0 29 ((σ11 0 29) - 1)) fun σ12 =>
              z_bnd (f12_settles 9 σ12) fun _ σ14 =>
              z_bnd (f12_reads σ14) fun _ σ16 =>
              f12_readAny_L9 n (v1 - 1) v2 σ16
        else
          z_bnd (f12_settles 10 σ4) fun _ σ18 =>
          z_bnd (f12_settles 11 σ18) fun _ σ20 =>
          z_bnd (f12_waits 11 σ20) fun _ σ22 =>
          z_bnd (f12_reads σ22) fun _ σ24 =>
          f12_readAny_L9 n v1 1 σ24
      else
        z_bnd (f12_settles 10 σ2) fun _ σ26 =>
        z_bnd (f12_waits 10 σ26) fun _ σ28 =>
        z_bnd (f12_reads σ28) fun _ σ30 =>
        f12_readAny_L9 n v1 1 σ30
    else
      z_bnd (f12_isWord 6 σ) fun r31 σ32 =>
      if r31 = 0 then
        z_bnd (f12_isSign 40 σ32) fun r33 σ34 =>
        if r33 = 0 then
          z_bnd (f12_readCompared σ34) fun r35 σ36 =>
          if r35 = (-1) then
            some ((-1), σ36)
          else
            z_bnd (f12_settles 9 σ36) fun _ σ38 =>
            f12_readAny_L9 n v1 0 σ38
        else
          f12_readAny_J33 (f12_readAny_L9 n) v1 v2 r31 σ34
      else
        f12_readAny_J33 (f12_readAny_L9 n) v1 v2 r31 σ32
def f12_readAny (σ : z_M) : Option (Int32 × z_M) :=
  z_let (z_set σ 0 31 0) fun σ1 =>
  f12_readAny_L9 z_fu 0 1 σ1
def f12_isLineWord (σ : z_M) : Option (Int32 × z_M) :=
  z_bnd (f12_isWord 0 σ) fun r1 σ2 =>
  if r1 = 0 then
    z_bnd (f12_isWord 1 σ2) fun r3 σ4 =>
    if r3 = 0 then
      z_bnd (f12_isWord 2 σ4) fun r5 σ6 =>
      if r5 = 0 then
        some (0, σ6)
      else
        some (1, σ6)
    else
      some (1, σ4)
  else
    some (1, σ2)
def f12_readLaw_J128 (v1 : Int32) (σ : z_M) : Option (Int32 × z_M) :=
  if σ 0 17 = 0 then
    some (v1, σ)
  else
    z_bnd (f12_errs 1 σ) fun r1 σ2 =>
    some (r1, σ2)
def f12_readLaw_J15 (σ : z_M) : Option (Int32 × z_M) :=
  z_bnd (f12_errs 3 σ) fun r1 σ2 =>
  some (r1, σ2)
def f12_readLaw_J111 (σ : z_M) : Option (Int32 × z_M) :=
  z_bnd (f12_errs 1 σ) fun r1 σ2 =>
  some (r1, σ2)
def f12_readLaw_J92 (k2 : Int32 → z_M → Option (Int32 × z_M)) (v1 : Int32) (v2 : Int32) (σ : z_M) : Option (Int32 × z_M) :=
  z_chk (z_in v2 48) <|
  z_let (z_set σ 13 (z_ix v2) (σ 0 28)) fun σ2 =>
  z_bnd (f12_isSign 59 σ2) fun r3 σ4 =>
  if r3 = 0 then
    f12_readLaw_J111 σ4
  else
    z_bnd (f12_reads σ4) fun _ σ6 =>
    k2 (v1 + 1) σ6
def f12_readLaw_L2 : Nat → Int32 → z_M → Option (Int32 × z_M)
  | 0, _, _ => none
  | n + 1, v1, σ =>
    z_bnd (f12_isLineWord σ) fun r1 σ2 =>
    if r1 = 0 then
      f12_readLaw_J128 v1 σ2
    else
      if v1 = 16 then
        f12_readLaw_J15 σ2
      else
        z_chk (z_in (32 + v1) 48) <|
        z_let (z_set σ2 10 (z_ix (32 + v1)) (σ2 0 18)) fun σ4 =>
        z_bnd (f12_reads σ4) fun _ σ6 =>
        z_chk (z_in (32 + v1) 48) <|
        z_let (z_set σ6 11 (z_ix (32 + v1)) (σ6 0 28)) fun σ8 =>
        z_bnd (f12_readSum σ8) fun r9 σ10 =>
        if r9 = (-1) then
          some ((-1), σ10)
        else
          z_chk (z_in (32 + v1) 48) <|
          z_let (z_set σ10 12 (z_ix (32 + v1)) (σ10 0 28)) fun σ12 =>
          z_bnd (f12_isWord 3 σ12) fun r13 σ14 =>
          if r13 = 0 then
            f12_readLaw_J92 (f12_readLaw_L2 n) v1 (32 + v1) σ14
          else
            z_bnd (f12_reads σ14) fun _ σ16 =>
            z_bnd (f12_readAny σ16) fun r17 σ18 =>
            if r17 = (-1) then
              some ((-1), σ18)
            else
              f12_readLaw_J92 (f12_readLaw_L2 n) v1 (32 + v1) σ18
def f12_readLaw (σ : z_M) : Option (Int32 × z_M) :=
  f12_readLaw_L2 z_fu 0 σ
def f12_takesLaw_J171 (v1 : Int32) (σ : z_M) : Option (Unit × z_M) :=
  z_chk (z_in (σ 0 27) 2) <|
  z_let (z_set σ 9 (z_ix (σ 0 27)) v1) fun σ2 =>
  some ((), σ2)
def f12_takesLaw_L107 : Nat → Int32 → Int32 → z_M → Option (Unit × z_M)
  | 0, _, _, _ => none
  | n + 1, v1, v2, σ =>
    if v2 < σ 0 28 then
      z_chk (z_in (800 + v2) 1200) <|
      z_chk (z_in ((400 * (σ 0 27)) + v2) 1200) <|
      z_let (z_set σ 14 (z_ix ((400 * (σ 0 27)) + v2)) (σ 14 (z_ix (800 + v2)))) fun σ3 =>
      z_chk (z_in (800 + v2) 1200) <|
      z_chk (z_in ((400 * (σ3 0 27)) + v2) 1200) <|
      z_let (z_set σ3 15 (z_ix ((400 * (σ3 0 27)) + v2)) (σ3 15 (z_ix (800 + v2)))) fun σ6 =>
      f12_takesLaw_L107 n v1 (v2 + 1) σ6
    else
      f12_takesLaw_J171 v1 σ
def f12_takesLaw_J105 (v1 : Int32) (σ : z_M) : Option (Unit × z_M) :=
  f12_takesLaw_L107 z_fu v1 0 σ
def f12_takesLaw_L2 : Nat → Int32 → Int32 → z_M → Option (Unit × z_M)
  | 0, _, _, _ => none
  | n + 1, v1, v2, σ =>
    if v2 < v1 then
      z_chk (z_in (32 + v2) 48) <|
      z_chk (z_in ((16 * (σ 0 27)) + v2) 48) <|
      z_let (z_set σ 10 (z_ix ((16 * (σ 0 27)) + v2)) (σ 10 (z_ix (32 + v2)))) fun σ3 =>
      z_chk (z_in (32 + v2) 48) <|
      z_chk (z_in ((16 * (σ3 0 27)) + v2) 48) <|
      z_let (z_set σ3 11 (z_ix ((16 * (σ3 0 27)) + v2)) (σ3 11 (z_ix (32 + v2)))) fun σ6 =>
      z_chk (z_in (32 + v2) 48) <|
      z_chk (z_in ((16 * (σ6 0 27)) + v2) 48) <|
      z_let (z_set σ6 12 (z_ix ((16 * (σ6 0 27)) + v2)) (σ6 12 (z_ix (32 + v2)))) fun σ9 =>
      z_chk (z_in (32 + v2) 48) <|
      z_chk (z_in ((16 * (σ9 0 27)) + v2) 48) <|
      z_let (z_set σ9 13 (z_ix ((16 * (σ9 0 27)) + v2)) (σ9 13 (z_ix (32 + v2)))) fun σ12 =>
      f12_takesLaw_L2 n v1 (v2 + 1) σ12
    else
      f12_takesLaw_J105 v1 σ
def f12_takesLaw (p1 : Int32) (σ : z_M) : Option (Unit × z_M) :=
  f12_takesLaw_L2 z_fu p1 0 σ
def f12_readNumber (p1 : Int32) (p2 : Int32) (σ : z_M) : Option (Int32 × z_M) :=
  if σ 0 17 = 3 then
    z_bnd (f12_isIn (σ 0 18) p1 p2 σ) fun r1 σ2 =>
    if r1 = 0 then
      z_bnd (f12_errs 2 σ2) fun r5 σ6 =>
      some (r5, σ6)
    else
      z_bnd (f12_reads σ2) fun _ σ4 =>
      some (σ2 0 18, σ4)
  else
    z_bnd (f12_errs 1 σ) fun r7 σ8 =>
    some (r7, σ8)
def f12_readWord (p1 : Int32) (σ : z_M) : Option (Int32 × z_M) :=
  z_bnd (f12_isWord p1 σ) fun r1 σ2 =>
  if r1 = 0 then
    z_bnd (f12_errs 1 σ2) fun r5 σ6 =>
    some (r5, σ6)
  else
    z_bnd (f12_reads σ2) fun _ σ4 =>
    some (0, σ4)
def f12_readMark (p1 : Int32) (σ : z_M) : Option (Int32 × z_M) :=
  z_bnd (f12_isSign p1 σ) fun r1 σ2 =>
  if r1 = 0 then
    z_bnd (f12_errs 1 σ2) fun r5 σ6 =>
    some (r5, σ6)
  else
    z_bnd (f12_reads σ2) fun _ σ4 =>
    some (0, σ4)
def f12_readTold (p1 : Int32) (p2 : Int32) (p3 : Int32) (σ : z_M) : Option (Int32 × z_M) :=
  z_bnd (f12_readWord p1 σ) fun r1 σ2 =>
  if r1 = (-1) then
    some ((-1), σ2)
  else
    z_bnd (f12_readNumber p2 p3 σ2) fun r3 σ4 =>
    some (r3, σ4)
def f12_readOther_J36 (σ : z_M) : Option (Int32 × z_M) :=
  z_bnd (f12_errs 2 σ) fun r1 σ2 =>
  some (r1, σ2)
def f12_readOther (p1 : Int32) (σ : z_M) : Option (Int32 × z_M) :=
  if σ 0 17 = 3 then
    if σ 0 18 < 8 then
      z_chk (z_in p1 96) <|
      if σ 0 18 = σ 17 (z_ix p1) then
        f12_readOther_J36 σ
      else
        z_chk (z_in (p1 + 1) 96) <|
        z_chk (z_in (p1 + 1) 96) <|
        z_let (z_set σ 17 (z_ix (p1 + 1)) ((σ 17 (z_ix (p1 + 1))) ||| (z_shl 1 (σ 0 18)))) fun σ4 =>
        z_bnd (f12_reads σ4) fun _ σ6 =>
        some (0, σ6)
    else
      f12_readOther_J36 σ
  else
    z_bnd (f12_errs 1 σ) fun r7 σ8 =>
    some (r7, σ8)
def f12_readReason_J89 (v1 : Int32) (σ : z_M) : Option (Int32 × z_M) :=
  z_bnd (f12_readTold 16 1 100 σ) fun r1 σ2 =>
  z_chk (z_in (v1 + 2) 96) <|
  z_let (z_set σ2 17 (z_ix (v1 + 2)) r1) fun σ4 =>
  z_chk (z_in (v1 + 2) 96) <|
  if σ4 17 (z_ix (v1 + 2)) = (-1) then
    some ((-1), σ4)
  else
    z_bnd (f12_readMark 59 σ4) fun r6 σ7 =>
    some (r6, σ7)
def f12_readReason_L66 : Nat → Int32 → z_M → Option (Int32 × z_M)
  | 0, _, _ => none
  | n + 1, v1, σ =>
    z_bnd (f12_reads σ) fun _ σ2 =>
    z_bnd (f12_readOther v1 σ2) fun r3 σ4 =>
    if r3 = (-1) then
      some ((-1), σ4)
    else
      z_bnd (f12_isWord 5 σ4) fun r5 σ6 =>
      if r5 = 0 then
        f12_readReason_J89 v1 σ6
      else
        f12_readReason_L66 n v1 σ6
def f12_readReason (p1 : Int32) (σ : z_M) : Option (Int32 × z_M) :=
  z_chk (z_in (p1 + 1) 96) <|
  z_let (z_set σ 17 (z_ix (p1 + 1)) 0) fun σ2 =>
  z_chk (z_in (p1 + 2) 96) <|
  z_let (z_set σ2 17 (z_ix (p1 + 2)) 0) fun σ4 =>
  z_bnd (f12_isWord 17 σ4) fun r5 σ6 =>
  if r5 = 0 then
    z_bnd (f12_isWord 15 σ6) fun r7 σ8 =>
    if r7 = 0 then
      z_bnd (f12_errs 1 σ8) fun r9 σ10 =>
      some (r9, σ10)
    else
      f12_readReason_L66 z_fu p1 σ8
  else
    z_bnd (f12_reads σ6) fun _ σ12 =>
    z_bnd (f12_readOther p1 σ12) fun r13 σ14 =>
    if r13 = (-1) then
      some ((-1), σ14)
    else
      z_bnd (f12_readMark 59 σ14) fun r15 σ16 =>
      some (r15, σ16)
def f12_readReasons_J31 (σ : z_M) : Option (Int32 × z_M) :=
  z_bnd (f12_errs 3 σ) fun r1 σ2 =>
  some (r1, σ2)
def f12_readReasons_J19 (σ : z_M) : Option (Int32 × z_M) :=
  z_bnd (f12_errs 2 σ) fun r1 σ2 =>
  some (r1, σ2)
def f12_readReasons_J76 (v1 : Int32) (σ : z_M) : Option (Int32 × z_M) :=
  if σ 0 17 = 0 then
    some (v1, σ)
  else
    z_bnd (f12_errs 1 σ) fun r1 σ2 =>
    some (r1, σ2)
def f12_readReasons_L2 : Nat → Int32 → z_M → Option (Int32 × z_M)
  | 0, _, _ => none
  | n + 1, v1, σ =>
    if σ 0 17 = 3 then
      if σ 0 18 < 8 then
        if v1 = 16 then
          f12_readReasons_J31 σ
        else
          z_chk (z_in (48 + (3 * v1)) 96) <|
          z_let (z_set σ 17 (z_ix (48 + (3 * v1))) (σ 0 18)) fun σ2 =>
          z_bnd (f12_reads σ2) fun _ σ4 =>
          z_bnd (f12_readReason (48 + (3 * v1)) σ4) fun r5 σ6 =>
          if r5 = (-1) then
            some ((-1), σ6)
          else
            f12_readReasons_L2 n (v1 + 1) σ6
      else
        f12_readReasons_J19 σ
    else
      f12_readReasons_J76 v1 σ
def f12_readReasons (σ : z_M) : Option (Int32 × z_M) :=
  f12_readReasons_L2 z_fu 0 σ
def f12_readWorks_J157 (v1 : Int32) (σ : z_M) : Option (Int32 × z_M) :=
  if σ 0 17 = 0 then
    some (v1, σ)
  else
    z_bnd (f12_errs 1 σ) fun r1 σ2 =>
    some (r1, σ2)
def f12_readWorks_J17 (σ : z_M) : Option (Int32 × z_M) :=
  z_bnd (f12_errs 3 σ) fun r1 σ2 =>
  some (r1, σ2)
def f12_readWorks_J101 (σ : z_M) : Option (Int32 × z_M) :=
  z_bnd (f12_errs 1 σ) fun r1 σ2 =>
  some (r1, σ2)
def f12_readWorks_J107 (k2 : Int32 → z_M → Option (Int32 × z_M)) (v1 : Int32) (v2 : Int32) (σ : z_M) : Option (Int32 × z_M) :=
  z_bnd (f12_reads σ) fun _ σ2 =>
  z_bnd (f12_readNumber 0 7 σ2) fun r3 σ4 =>
  z_chk (z_in (v2 + 2) 72) <|
  z_let (z_set σ4 18 (z_ix (v2 + 2)) r3) fun σ6 =>
  z_chk (z_in (v2 + 2) 72) <|
  if σ6 18 (z_ix (v2 + 2)) = (-1) then
    some ((-1), σ6)
  else
    z_bnd (f12_readMark 59 σ6) fun r8 σ9 =>
    if r8 = (-1) then
      some ((-1), σ9)
    else
      k2 (v1 + 1) σ9
def f12_readWorks_J82 (k2 : Int32 → z_M → Option (Int32 × z_M)) (v1 : Int32) (v2 : Int32) (s1 : Int32) (s2 : Int32) (σ : z_M) : Option (Int32 × z_M) :=
  z_chk (z_in s1 72) <|
  z_let (z_set σ 18 (z_ix s1) s2) fun σ2 =>
  z_bnd (f12_isWord 19 σ2) fun r3 σ4 =>
  if r3 = 0 then
    z_bnd (f12_isWord 20 σ4) fun r5 σ6 =>
    if r5 = 0 then
      f12_readWorks_J101 σ6
    else
      f12_readWorks_J107 k2 v1 v2 σ6
  else
    f12_readWorks_J107 k2 v1 v2 σ4
def f12_readWorks_L2 : Nat → Int32 → z_M → Option (Int32 × z_M)
  | 0, _, _ => none
  | n + 1, v1, σ =>
    z_bnd (f12_isWord 18 σ) fun r1 σ2 =>
    if r1 = 0 then
      f12_readWorks_J157 v1 σ2
    else
      if v1 = 12 then
        f12_readWorks_J17 σ2
      else
        z_bnd (f12_readTold 18 0 ((σ2 0 6) - 1) σ2) fun r3 σ4 =>
        z_chk (z_in (36 + (3 * v1)) 72) <|
        z_let (z_set σ4 18 (z_ix (36 + (3 * v1))) r3) fun σ6 =>
        z_chk (z_in (36 + (3 * v1)) 72) <|
        if σ6 18 (z_ix (36 + (3 * v1))) = (-1) then
          some ((-1), σ6)
        else
          z_bnd (f12_isWord 19 σ6) fun r8 σ9 =>
          if r8 = 0 then
            f12_readWorks_J82 (f12_readWorks_L2 n) v1 (36 + (3 * v1)) ((36 + (3 * v1)) + 1) 0 σ9
          else
            f12_readWorks_J82 (f12_readWorks_L2 n) v1 (36 + (3 * v1)) ((36 + (3 * v1)) + 1) 1 σ9
def f12_readWorks (σ : z_M) : Option (Int32 × z_M) :=
  f12_readWorks_L2 z_fu 0 σ
def f12_kindOf (p1 : Int32) (σ : z_M) : Option (Int32 × z_M) :=
  if p1 = 22 then
    some (0, σ)
  else
    if p1 = 9 then
      some (2, σ)
    else
      if p1 = 25 then
        some (1, σ)
      else
        if p1 = 26 then
          some (3, σ)
        else
          some ((-1), σ)
def f12_readDeed_J67 (v1 : Int32) (σ : z_M) : Option (Int32 × z_M) :=
  z_chk (z_in (v1 + 3) 160) <|
  some (σ 19 (z_ix (v1 + 3)), σ)
def f12_readDeed_J108 (v1 : Int32) (s1 : Int32) (s2 : Int32) (σ : z_M) : Option (Int32 × z_M) :=
  z_chk (z_in s1 160) <|
  z_let (z_set σ 19 (z_ix s1) s2) fun σ2 =>
  z_chk (z_in (v1 + 4) 160) <|
  some (σ2 19 (z_ix (v1 + 4)), σ2)
def f12_readDeed_J49 (v1 : Int32) (v2 : Int32) (s1 : Int32) (s2 : Int32) (σ : z_M) : Option (Int32 × z_M) :=
  z_chk (z_in s1 160) <|
  z_let (z_set σ 19 (z_ix s1) s2) fun σ2 =>
  z_chk (z_in (v1 + 3) 160) <|
  if σ2 19 (z_ix (v1 + 3)) = (-1) then
    f12_readDeed_J67 v1 σ2
  else
    if v2 = 2 then
      f12_readDeed_J67 v1 σ2
    else
      if v2 = 0 then
        z_bnd (f12_readTold 8 0 9 σ2) fun r6 σ7 =>
        f12_readDeed_J108 v1 (v1 + 4) r6 σ7
      else
        z_bnd (f12_readTold 27 0 100 σ2) fun r4 σ5 =>
        f12_readDeed_J108 v1 (v1 + 4) r4 σ5
def f12_readDeed (p1 : Int32) (σ : z_M) : Option (Int32 × z_M) :=
  z_chk (z_in (p1 + 1) 160) <|
  if σ 19 (z_ix (p1 + 1)) = 1 then
    some (0, σ)
  else
    if σ 19 (z_ix (p1 + 1)) = 2 then
      z_bnd (f12_readTold 24 1 99 σ) fun r4 σ5 =>
      f12_readDeed_J49 p1 (σ 19 (z_ix (p1 + 1))) (p1 + 3) r4 σ5
    else
      z_bnd (f12_readTold 23 0 7 σ) fun r2 σ3 =>
      f12_readDeed_J49 p1 (σ 19 (z_ix (p1 + 1))) (p1 + 3) r2 σ3
def f12_readPlanLine_J55 (v1 : Int32) (s1 : Int32) (s2 : Int32) (σ : z_M) : Option (Int32 × z_M) :=
  z_chk (z_in s1 160) <|
  z_let (z_set σ 19 (z_ix s1) s2) fun σ2 =>
  z_chk (z_in (v1 + 1) 160) <|
  if σ2 19 (z_ix (v1 + 1)) = (-1) then
    z_bnd (f12_errs 1 σ2) fun r19 σ20 =>
    some (r19, σ20)
  else
    z_bnd (f12_reads σ2) fun _ σ5 =>
    z_bnd (f12_readNumber 0 ((σ5 0 6) - 1) σ5) fun r6 σ7 =>
    z_chk (z_in (v1 + 2) 160) <|
    z_let (z_set σ7 19 (z_ix (v1 + 2)) r6) fun σ9 =>
    z_chk (z_in (v1 + 2) 160) <|
    if σ9 19 (z_ix (v1 + 2)) = (-1) then
      some ((-1), σ9)
    else
      z_chk (z_in (v1 + 3) 160) <|
      z_let (z_set σ9 19 (z_ix (v1 + 3)) 0) fun σ12 =>
      z_chk (z_in (v1 + 4) 160) <|
      z_let (z_set σ12 19 (z_ix (v1 + 4)) 0) fun σ14 =>
      z_bnd (f12_readDeed v1 σ14) fun r15 σ16 =>
      if r15 = (-1) then
        some ((-1), σ16)
      else
        z_bnd (f12_readMark 59 σ16) fun r17 σ18 =>
        some (r17, σ18)
def f12_readPlanLine (p1 : Int32) (σ : z_M) : Option (Int32 × z_M) :=
  z_bnd (f12_readTold 21 0 999 σ) fun r1 σ2 =>
  z_chk (z_in p1 160) <|
  z_let (z_set σ2 19 (z_ix p1) r1) fun σ4 =>
  z_chk (z_in p1 160) <|
  if σ4 19 (z_ix p1) = (-1) then
    some ((-1), σ4)
  else
    if σ4 0 17 = 2 then
      z_bnd (f12_kindOf (σ4 0 18) σ4) fun r6 σ7 =>
      f12_readPlanLine_J55 p1 (p1 + 1) r6 σ7
    else
      f12_readPlanLine_J55 p1 (p1 + 1) (-1) σ4
def f12_readPlan_J46 (v1 : Int32) (σ : z_M) : Option (Int32 × z_M) :=
  if σ 0 17 = 0 then
    some (v1, σ)
  else
    z_bnd (f12_errs 1 σ) fun r1 σ2 =>
    some (r1, σ2)
def f12_readPlan_J17 (σ : z_M) : Option (Int32 × z_M) :=
  z_bnd (f12_errs 3 σ) fun r1 σ2 =>
  some (r1, σ2)
def f12_readPlan_L2 : Nat → Int32 → z_M → Option (Int32 × z_M)
  | 0, _, _ => none
  | n + 1, v1, σ =>
    z_bnd (f12_isWord 21 σ) fun r1 σ2 =>
    if r1 = 0 then
      f12_readPlan_J46 v1 σ2
    else
      if v1 = 16 then
        f12_readPlan_J17 σ2
      else
        z_bnd (f12_readPlanLine (80 + (5 * v1)) σ2) fun r3 σ4 =>
        if r3 = (-1) then
          some ((-1), σ4)
        else
          f12_readPlan_L2 n (v1 + 1) σ4
def f12_readPlan (σ : z_M) : Option (Int32 × z_M) :=
  f12_readPlan_L2 z_fu 0 σ
def f12_readsText (p1 : Int32) (σ : z_M) : Option (Int32 × z_M) :=
  z_let (z_set σ 0 27 p1) fun σ1 =>
  z_bnd (f12_reads σ1) fun _ σ3 =>
  if p1 = 0 then
    z_bnd (f12_readReasons σ3) fun r10 σ11 =>
    some (r10, σ11)
  else
    if p1 = 2 then
      z_bnd (f12_readWorks σ3) fun r8 σ9 =>
      some (r8, σ9)
    else
      if p1 = 3 then
        z_bnd (f12_readPlan σ3) fun r6 σ7 =>
        some (r6, σ7)
      else
        z_bnd (f12_readLaw σ3) fun r4 σ5 =>
        some (r4, σ5)
def f12_takesOther_J114 (v2 : Int32) (σ : z_M) : Option (Unit × z_M) :=
  z_let (z_set σ 0 38 v2) fun σ1 =>
  some ((), σ1)
def f12_takesOther_L86 : Nat → Int32 → Int32 → z_M → Option (Unit × z_M)
  | 0, _, _, _ => none
  | n + 1, v2, v3, σ =>
    if v3 < 3 * v2 then
      z_chk (z_in (36 + v3) 72) <|
      z_chk (z_in v3 72) <|
      z_let (z_set σ 18 (z_ix v3) (σ 18 (z_ix (36 + v3)))) fun σ3 =>
      f12_takesOther_L86 n v2 (v3 + 1) σ3
    else
      f12_takesOther_J114 v2 σ
def f12_takesOther_J79 (v1 : Int32) (v2 : Int32) (σ : z_M) : Option (Unit × z_M) :=
  if v1 = 2 then
    f12_takesOther_L86 z_fu v2 0 σ
  else
    z_let (z_set σ 0 3 0) fun σ1 =>
    some ((), σ1)
def f12_takesOther_J74 (v1 : Int32) (v2 : Int32) (σ : z_M) : Option (Unit × z_M) :=
  z_let (z_set σ 0 40 v2) fun σ1 =>
  f12_takesOther_J79 v1 v2 σ1
def f12_takesOther_L46 : Nat → Int32 → Int32 → Int32 → z_M → Option (Unit × z_M)
  | 0, _, _, _, _ => none
  | n + 1, v1, v2, v3, σ =>
    if v3 < 5 * v2 then
      z_chk (z_in (80 + v3) 160) <|
      z_chk (z_in v3 160) <|
      z_let (z_set σ 19 (z_ix v3) (σ 19 (z_ix (80 + v3)))) fun σ3 =>
      f12_takesOther_L46 n v1 v2 (v3 + 1) σ3
    else
      f12_takesOther_J74 v1 v2 σ
def f12_takesOther_J39 (v1 : Int32) (v2 : Int32) (σ : z_M) : Option (Unit × z_M) :=
  if v1 = 3 then
    f12_takesOther_L46 z_fu v1 v2 0 σ
  else
    f12_takesOther_J79 v1 v2 σ
def f12_takesOther_J34 (v1 : Int32) (v2 : Int32) (σ : z_M) : Option (Unit × z_M) :=
  z_let (z_set σ 0 36 v2) fun σ1 =>
  f12_takesOther_J39 v1 v2 σ1
def f12_takesOther_L6 : Nat → Int32 → Int32 → Int32 → z_M → Option (Unit × z_M)
  | 0, _, _, _, _ => none
  | n + 1, v1, v2, v3, σ =>
    if v3 < 3 * v2 then
      z_chk (z_in (48 + v3) 96) <|
      z_chk (z_in v3 96) <|
      z_let (z_set σ 17 (z_ix v3) (σ 17 (z_ix (48 + v3)))) fun σ3 =>
      f12_takesOther_L6 n v1 v2 (v3 + 1) σ3
    else
      f12_takesOther_J34 v1 v2 σ
def f12_takesOther (p1 : Int32) (p2 : Int32) (σ : z_M) : Option (Unit × z_M) :=
  if p1 = 0 then
    f12_takesOther_L6 z_fu p1 p2 0 σ
  else
    f12_takesOther_J39 p1 p2 σ
def f12_text_J69 (v1 : Int32) (v2 : Int32) (σ : z_M) : Option (Int32 × z_M) :=
  z_let (z_set σ 0 14 0) fun σ1 =>
  if v2 = (-1) then
    some ((-1), σ1)
  else
    if v1 = 1 then
      z_bnd (f12_takesLaw v2 σ1) fun _ σ5 =>
      some (v2, σ5)
    else
      z_bnd (f12_takesOther v1 v2 σ1) fun _ σ3 =>
      some (v2, σ3)
def f12_text (p1 : Int32) (σ : z_M) : Option (Int32 × z_M) :=
  z_let (z_set σ 0 0 0) fun σ1 =>
  z_let (z_set σ1 0 34 0) fun σ2 =>
  z_let (z_set σ2 0 35 (-1)) fun σ3 =>
  z_let (z_set σ3 0 15 0) fun σ4 =>
  z_let (z_set σ4 0 28 0) fun σ5 =>
  z_let (z_set σ5 0 29 0) fun σ6 =>
  z_bnd (f12_isIn p1 0 3 σ6) fun r7 σ8 =>
  if r7 = 0 then
    f12_text_J69 p1 (-1) σ8
  else
    z_bnd (f12_readsText p1 σ8) fun r9 σ10 =>
    if r9 = (-1) then
      z_let (z_set σ10 0 34 (σ10 0 32)) fun σ11 =>
      z_let (z_set σ11 0 35 (σ11 0 33)) fun σ12 =>
      f12_text_J69 p1 r9 σ12
    else
      f12_text_J69 p1 r9 σ10
def f12_fault (p1 : Int32) (σ : z_M) : Option (Int32 × z_M) :=
  z_let (z_set σ 0 0 0) fun σ1 =>
  if p1 = 0 then
    some (σ1 0 34, σ1)
  else
    if p1 = 1 then
      some (σ1 0 35, σ1)
    else
      some ((-1), σ1)
def f12_twoOf (p1 : Int32) (p2 : Int32) (p3 : Int32) (σ : z_M) : Option (Int32 × z_M) :=
  if p1 = 2 then
    some (p2 + p3, σ)
  else
    if p1 = 3 then
      some (p2 - p3, σ)
    else
      if p1 = 4 then
        some (p2 * p3, σ)
      else
        if p1 = 5 then
          z_chk (!decide (p3 = 0)) <|
          some (p2 / p3, σ)
        else
          if p1 = 6 then
            if p2 < p3 then
              some (1, σ)
            else
              some (0, σ)
          else
            if p1 = 7 then
              if p2 = p3 then
                some (1, σ)
              else
                some (0, σ)
            else
              if p1 = 8 then
                if p3 < p2 then
                  some (1, σ)
                else
                  some (0, σ)
              else
                if p1 = 10 then
                  some (p2 * p3, σ)
                else
                  if 0 < p2 + p3 then
                    some (1, σ)
                  else
                    some (0, σ)
def f12_runs_J83 (k12 : Int32 → Int32 → Int32 → Int32 → z_M → Option (Int32 × z_M)) (v1 : Int32) (v3 : Int32) (v4 : Int32) (v5 : Int32) (s1 : Int32) (s2 : Int32) (σ : z_M) : Option (Int32 × z_M) :=
  z_chk (z_in s1 420) <|
  z_let (z_set σ 21 (z_ix s1) s2) fun σ2 =>
  k12 v1 v3 (v4 + 1) (v5 + 1) σ2
def f12_runs_J45 (k12 : Int32 → Int32 → Int32 → Int32 → z_M → Option (Int32 × z_M)) (v1 : Int32) (v3 : Int32) (v4 : Int32) (v5 : Int32) (σ : z_M) : Option (Int32 × z_M) :=
  z_chk (z_in v5 1200) <|
  if σ 14 (z_ix v5) = 0 then
    z_chk (z_in v5 1200) <|
    f12_runs_J83 k12 v1 v3 v4 v5 v4 (σ 15 (z_ix v5)) σ
  else
    z_chk (z_in v5 1200) <|
    z_chk (z_in (σ 15 (z_ix v5)) 8) <|
    f12_runs_J83 k12 v1 v3 v4 v5 v4 (σ 20 (z_ix (σ 15 (z_ix v5)))) σ
def f12_runs_J176 (σ : z_M) : Option (Int32 × z_M) :=
  z_chk (z_in 0 420) <|
  some (σ 21 (z_ix 0), σ)
def f12_runs_L12 : Nat → Int32 → Int32 → Int32 → Int32 → z_M → Option (Int32 × z_M)
  | 0, _, _, _, _, _ => none
  | n + 1, v1, v3, v4, v5, σ =>
    if v5 < (400 * v1) + v3 then
      z_chk (z_in v5 1200) <|
      if σ 14 (z_ix v5) = 0 then
        f12_runs_J45 (f12_runs_L12 n) v1 v3 v4 v5 σ
      else
        z_chk (z_in v5 1200) <|
        if σ 14 (z_ix v5) = 1 then
          f12_runs_J45 (f12_runs_L12 n) v1 v3 v4 v5 σ
        else
          z_chk (z_in v5 1200) <|
          if σ 14 (z_ix v5) = 9 then
            z_chk (z_in (v4 - 1) 420) <|
            z_chk (z_in (v4 - 1) 420) <|
            z_let (z_set σ 21 (z_ix (v4 - 1)) (1 - (σ 21 (z_ix (v4 - 1))))) fun σ13 =>
            f12_runs_L12 n v1 v3 v4 (v5 + 1) σ13
          else
            z_chk (z_in v5 1200) <|
            z_chk (z_in ((v4 - 1) - 1) 420) <|
            z_chk (z_in (v4 - 1) 420) <|
            z_bnd (f12_twoOf (σ 14 (z_ix v5)) (σ 21 (z_ix ((v4 - 1) - 1))) (σ 21 (z_ix (v4 - 1))) σ) fun r7 σ8 =>
            z_chk (z_in ((v4 - 1) - 1) 420) <|
            z_let (z_set σ8 21 (z_ix ((v4 - 1) - 1)) r7) fun σ10 =>
            f12_runs_L12 n v1 v3 (v4 - 1) (v5 + 1) σ10
    else
      f12_runs_J176 σ
def f12_runs (p1 : Int32) (p2 : Int32) (p3 : Int32) (σ : z_M) : Option (Int32 × z_M) :=
  f12_runs_L12 z_fu p1 p3 0 ((400 * p1) + p2) σ
def f12_lineOf_L2 : Nat → Int32 → Int32 → z_M → Option (Int32 × z_M)
  | 0, _, _, _ => none
  | n + 1, v1, v2, σ =>
    z_chk (z_in 1 2) <|
    if v2 < σ 9 (z_ix 1) then
      z_chk (z_in (16 + v2) 48) <|
      if σ 10 (z_ix (16 + v2)) = v1 then
        z_chk (z_in (16 + v2) 48) <|
        z_chk (z_in (16 + v2) 48) <|
        if σ 12 (z_ix (16 + v2)) = σ 13 (z_ix (16 + v2)) then
          some (16 + v2, σ)
        else
          z_chk (z_in (16 + v2) 48) <|
          z_chk (z_in (16 + v2) 48) <|
          z_bnd (f12_runs 1 (σ 12 (z_ix (16 + v2))) (σ 13 (z_ix (16 + v2))) σ) fun r7 σ8 =>
          if r7 = 0 then
            f12_lineOf_L2 n v1 (v2 + 1) σ8
          else
            some (16 + v2, σ8)
      else
        f12_lineOf_L2 n v1 (v2 + 1) σ
    else
      some ((-1), σ)
def f12_lineOf (p1 : Int32) (σ : z_M) : Option (Int32 × z_M) :=
  f12_lineOf_L2 z_fu p1 0 σ
def f12_asks (p1 : Int32) (σ : z_M) : Option (Unit × z_M) :=
  z_chk (z_in (76 + p1) 100) <|
  z_chk (z_in 0 8) <|
  z_let (z_set σ 20 (z_ix 0) (σ 1 (z_ix (76 + p1)))) fun σ3 =>
  z_chk (z_in (84 + p1) 100) <|
  z_chk (z_in 1 8) <|
  z_let (z_set σ3 20 (z_ix 1) (σ3 1 (z_ix (84 + p1)))) fun σ6 =>
  z_chk (z_in (92 + p1) 100) <|
  z_chk (z_in 2 8) <|
  z_let (z_set σ6 20 (z_ix 2) (σ6 1 (z_ix (92 + p1)))) fun σ9 =>
  z_bnd (f12_potOf p1 σ9) fun r10 σ11 =>
  z_bnd (f12_degreeOf p1 r10 σ11) fun r12 σ13 =>
  z_chk (z_in 3 8) <|
  z_let (z_set σ13 20 (z_ix 3) r12) fun σ15 =>
  z_bnd (f12_potOf p1 σ15) fun r16 σ17 =>
  z_chk (z_in 4 8) <|
  z_let (z_set σ17 20 (z_ix 4) r16) fun σ19 =>
  z_chk (z_in 0 100) <|
  z_chk (z_in 5 8) <|
  z_let (z_set σ19 20 (z_ix 5) (σ19 1 (z_ix 0))) fun σ22 =>
  z_bnd (f12_suresOf p1 σ22) fun r23 σ24 =>
  z_bnd (f12_onesOf r23 σ24) fun r25 σ26 =>
  z_chk (z_in 6 8) <|
  z_let (z_set σ26 20 (z_ix 6) r25) fun σ28 =>
  z_chk (z_in p1 8) <|
  z_bnd (f12_onesOf (σ28 5 (z_ix p1)) σ28) fun r30 σ31 =>
  z_chk (z_in 7 8) <|
  z_let (z_set σ31 20 (z_ix 7) r30) fun σ33 =>
  some ((), σ33)
def f12_lawTells_J37 (v3 : Int32) (v4 : Int32) (s1 : Int32) (σ : z_M) : Option (Int32 × z_M) :=
  z_bnd (f12_held s1 v3 v4 σ) fun r1 σ2 =>
  some (r1, σ2)
def f12_lawTells (p1 : Int32) (p2 : Int32) (p3 : Int32) (p4 : Int32) (σ : z_M) : Option (Int32 × z_M) :=
  z_bnd (f12_lineOf p1 σ) fun r1 σ2 =>
  if r1 = (-1) then
    f12_lawTells_J37 p3 p4 p2 σ2
  else
    z_chk (z_in r1 48) <|
    z_chk (z_in r1 48) <|
    z_bnd (f12_runs 1 (σ2 11 (z_ix r1)) (σ2 12 (z_ix r1)) σ2) fun r5 σ6 =>
    f12_lawTells_J37 p3 p4 r5 σ6
def f12_growAsked (σ : z_M) : Option (Int32 × z_M) :=
  z_chk (z_in 2 8) <|
  z_bnd (f12_lawTells 0 ((σ 20 (z_ix 2)) - 5) (-99) 99 σ) fun r2 σ3 =>
  some (r2, σ3)
def f12_lowerAsked (σ : z_M) : Option (Int32 × z_M) :=
  z_chk (z_in 0 8) <|
  z_bnd (f12_lawTells 1 ((σ 20 (z_ix 0)) / 10) 0 100 σ) fun r2 σ3 =>
  some (r2, σ3)
def f12_seedAsked (σ : z_M) : Option (Int32 × z_M) :=
  z_bnd (f12_lawTells 2 10 0 99 σ) fun r1 σ2 =>
  some (r1, σ2)
def f12_notes (p1 : Int32) (p2 : Int32) (p3 : Int32) (σ : z_M) : Option (Unit × z_M) :=
  if σ 0 5 = 0 then
    z_chk (z_in 2 100) <|
    if σ 1 (z_ix 2) = 150 then
      some ((), σ)
    else
      z_chk (z_in 2 100) <|
      z_chk (z_in 0 100) <|
      z_chk (z_in (4 * (σ 1 (z_ix 2))) 600) <|
      z_let (z_set σ 6 (z_ix (4 * (σ 1 (z_ix 2)))) (σ 1 (z_ix 0))) fun σ5 =>
      z_chk (z_in ((4 * (σ 1 (z_ix 2))) + 1) 600) <|
      z_let (z_set σ5 6 (z_ix ((4 * (σ 1 (z_ix 2))) + 1)) p1) fun σ7 =>
      z_chk (z_in ((4 * (σ 1 (z_ix 2))) + 2) 600) <|
      z_let (z_set σ7 6 (z_ix ((4 * (σ 1 (z_ix 2))) + 2)) p2) fun σ9 =>
      z_chk (z_in ((4 * (σ 1 (z_ix 2))) + 3) 600) <|
      z_let (z_set σ9 6 (z_ix ((4 * (σ 1 (z_ix 2))) + 3)) p3) fun σ11 =>
      z_chk (z_in 2 100) <|
      z_chk (z_in 2 100) <|
      z_let (z_set σ11 1 (z_ix 2) ((σ11 1 (z_ix 2)) + 1)) fun σ14 =>
      some ((), σ14)
  else
    some ((), σ)
def f12_pots (p1 : Int32) (p2 : Int32) (p3 : Int32) (p4 : Int32) (p5 : Int32) (σ : z_M) : Option (Unit × z_M) :=
  z_chk (z_in (68 + p1) 100) <|
  z_let (z_set σ 1 (z_ix (68 + p1)) (p2 + 1)) fun σ2 =>
  z_chk (z_in (76 + p1) 100) <|
  z_let (z_set σ2 1 (z_ix (76 + p1)) p3) fun σ4 =>
  z_chk (z_in (84 + p1) 100) <|
  z_let (z_set σ4 1 (z_ix (84 + p1)) p4) fun σ6 =>
  z_chk (z_in (92 + p1) 100) <|
  z_let (z_set σ6 1 (z_ix (92 + p1)) 0) fun σ8 =>
  z_bnd (f12_notes p5 p1 p2 σ8) fun _ σ10 =>
  some ((), σ10)
def f12_loses (p1 : Int32) (p2 : Int32) (σ : z_M) : Option (Unit × z_M) :=
  z_bnd (f12_potOf p1 σ) fun r1 σ2 =>
  z_bnd (f12_notes p2 p1 r1 σ2) fun _ σ4 =>
  z_chk (z_in (68 + p1) 100) <|
  z_let (z_set σ4 1 (z_ix (68 + p1)) 0) fun σ6 =>
  some ((), σ6)
def f12_canDo_J28 (s0 : Int32) (s1 : Int32) (σ : z_M) : Option (Int32 × z_M) :=
  if s0 = s1 then
    some (1, σ)
  else
    some (0, σ)
def f12_canDo_J14 (v2 : Int32) (s0 : Int32) (σ : z_M) : Option (Int32 × z_M) :=
  z_bnd (f12_potOf v2 σ) fun r1 σ2 =>
  if r1 = (-1) then
    f12_canDo_J28 s0 1 σ2
  else
    f12_canDo_J28 s0 0 σ2
def f12_canDo (p1 : Int32) (p2 : Int32) (σ : z_M) : Option (Int32 × z_M) :=
  if p1 = 3 then
    some (1, σ)
  else
    if p1 = 0 then
      f12_canDo_J14 p2 1 σ
    else
      f12_canDo_J14 p2 0 σ
def f12_does_J58 (v1 : Int32) (v2 : Int32) (v3 : Int32) (v4 : Int32) (σ : z_M) : Option (Unit × z_M) :=
  if v1 = 3 then
    z_bnd (f12_degreeBe v2 v3 v4 σ) fun _ σ2 =>
    some ((), σ2)
  else
    some ((), σ)
def f12_does_J26 (v1 : Int32) (v2 : Int32) (v3 : Int32) (v4 : Int32) (σ : z_M) : Option (Unit × z_M) :=
  if v1 = 2 then
    z_chk (z_in (92 + v2) 100) <|
    z_bnd (f12_held ((σ 1 (z_ix (92 + v2))) + v3) 0 99 σ) fun r2 σ3 =>
    z_chk (z_in (92 + v2) 100) <|
    z_let (z_set σ3 1 (z_ix (92 + v2)) r2) fun σ5 =>
    f12_does_J58 v1 v2 v3 v4 σ5
  else
    f12_does_J58 v1 v2 v3 v4 σ
def f12_does_J15 (v1 : Int32) (v2 : Int32) (v3 : Int32) (v4 : Int32) (σ : z_M) : Option (Unit × z_M) :=
  if v1 = 1 then
    z_bnd (f12_loses v2 1 σ) fun _ σ2 =>
    f12_does_J26 v1 v2 v3 v4 σ2
  else
    f12_does_J26 v1 v2 v3 v4 σ
def f12_does (p1 : Int32) (p2 : Int32) (p3 : Int32) (p4 : Int32) (σ : z_M) : Option (Unit × z_M) :=
  if p1 = 0 then
    z_bnd (f12_pots p2 p3 10 p4 0 σ) fun _ σ2 =>
    f12_does_J15 p1 p2 p3 p4 σ2
  else
    f12_does_J15 p1 p2 p3 p4 σ
def f12_acts (p1 : Int32) (p2 : Int32) (p3 : Int32) (p4 : Int32) (σ : z_M) : Option (Int32 × z_M) :=
  z_bnd (f12_canDo p1 p2 σ) fun r1 σ2 =>
  if r1 = 0 then
    some (0, σ2)
  else
    z_bnd (f12_keepsAhead σ2) fun _ σ4 =>
    z_bnd (f12_does p1 p2 p3 p4 σ4) fun _ σ6 =>
    some (1, σ6)
def f12_pot_J47 (σ : z_M) : Option (Int32 × z_M) :=
  some (0, σ)
def f12_pot (p1 : Int32) (p2 : Int32) (p3 : Int32) (σ : z_M) : Option (Int32 × z_M) :=
  z_let (z_set σ 0 0 0) fun σ1 =>
  z_bnd (f12_isHouse p1 σ1) fun r2 σ3 =>
  if r2 = 0 then
    f12_pot_J47 σ3
  else
    z_bnd (f12_isThing p2 σ3) fun r4 σ5 =>
    if r4 = 0 then
      f12_pot_J47 σ5
    else
      z_bnd (f12_isIn p3 0 9 σ5) fun r6 σ7 =>
      if r6 = 0 then
        f12_pot_J47 σ7
      else
        z_bnd (f12_acts 0 p1 p2 p3 σ7) fun r8 σ9 =>
        if r8 = 0 then
          f12_pot_J47 σ9
        else
          some (1, σ9)
def f12_water_J39 (σ : z_M) : Option (Int32 × z_M) :=
  some (0, σ)
def f12_water (p1 : Int32) (p2 : Int32) (σ : z_M) : Option (Int32 × z_M) :=
  z_let (z_set σ 0 0 0) fun σ1 =>
  z_bnd (f12_isHouse p1 σ1) fun r2 σ3 =>
  if r2 = 0 then
    f12_water_J39 σ3
  else
    z_bnd (f12_isIn p2 1 99 σ3) fun r4 σ5 =>
    if r4 = 0 then
      f12_water_J39 σ5
    else
      z_bnd (f12_acts 2 p1 p2 0 σ5) fun r6 σ7 =>
      if r6 = 0 then
        f12_water_J39 σ7
      else
        some (1, σ7)
def f12_weed_J28 (σ : z_M) : Option (Int32 × z_M) :=
  some (0, σ)
def f12_weed (p1 : Int32) (σ : z_M) : Option (Int32 × z_M) :=
  z_let (z_set σ 0 0 0) fun σ1 =>
  z_bnd (f12_isHouse p1 σ1) fun r2 σ3 =>
  if r2 = 0 then
    f12_weed_J28 σ3
  else
    z_bnd (f12_acts 1 p1 0 0 σ3) fun r4 σ5 =>
    if r4 = 0 then
      f12_weed_J28 σ5
    else
      some (1, σ5)
def f12_tell_J47 (σ : z_M) : Option (Int32 × z_M) :=
  some (0, σ)
def f12_tell (p1 : Int32) (p2 : Int32) (p3 : Int32) (σ : z_M) : Option (Int32 × z_M) :=
  z_let (z_set σ 0 0 0) fun σ1 =>
  z_bnd (f12_isHouse p1 σ1) fun r2 σ3 =>
  if r2 = 0 then
    f12_tell_J47 σ3
  else
    z_bnd (f12_isThing p2 σ3) fun r4 σ5 =>
    if r4 = 0 then
      f12_tell_J47 σ5
    else
      z_bnd (f12_isIn p3 0 100 σ5) fun r6 σ7 =>
      if r6 = 0 then
        f12_tell_J47 σ7
      else
        z_bnd (f12_acts 3 p1 p2 p3 σ7) fun r8 σ9 =>
        if r8 = 0 then
          f12_tell_J47 σ9
        else
          some (1, σ9)
def f12_ofReason (p1 : Int32) (p2 : Int32) (σ : z_M) : Option (Int32 × z_M) :=
  z_chk (z_in ((3 * p1) + p2) 96) <|
  some (σ 17 (z_ix ((3 * p1) + p2)), σ)
def f12_reasonsAt_L2 : Nat → Int32 → Int32 → z_M → Option (Unit × z_M)
  | 0, _, _, _ => none
  | n + 1, v1, v2, σ =>
    if v2 < σ 0 36 then
      z_bnd (f12_ofReason v2 0 σ) fun r1 σ2 =>
      z_bnd (f12_ofReason v2 2 σ2) fun r3 σ4 =>
      if 0 < r3 then
        z_bnd (f12_ofReason v2 1 σ4) fun r5 σ6 =>
        z_bnd (f12_suresOf v1 σ6) fun r7 σ8 =>
        if r5 &&& (r7 ^^^ (-1)) = 0 then
          z_bnd (f12_degreeOf v1 r1 σ8) fun r9 σ10 =>
          z_bnd (f12_ofReason v2 2 σ10) fun r11 σ12 =>
          z_bnd (f12_held (r9 + r11) 0 100 σ12) fun r13 σ14 =>
          z_bnd (f12_degreeBe v1 r1 r13 σ14) fun _ σ16 =>
          f12_reasonsAt_L2 n v1 (v2 + 1) σ16
        else
          f12_reasonsAt_L2 n v1 (v2 + 1) σ8
      else
        f12_reasonsAt_L2 n v1 (v2 + 1) σ4
    else
      some ((), σ)
def f12_reasonsAt (p1 : Int32) (σ : z_M) : Option (Unit × z_M) :=
  f12_reasonsAt_L2 z_fu p1 0 σ
def f12_grows (p1 : Int32) (σ : z_M) : Option (Unit × z_M) :=
  z_bnd (f12_asks p1 σ) fun _ σ2 =>
  z_bnd (f12_lowerAsked σ2) fun r3 σ4 =>
  z_bnd (f12_growAsked σ4) fun r5 σ6 =>
  z_bnd (f12_potOf p1 σ6) fun r7 σ8 =>
  z_bnd (f12_degreeOf p1 r7 σ8) fun r9 σ10 =>
  z_bnd (f12_greater 0 (r9 - r3) σ10) fun r11 σ12 =>
  z_bnd (f12_degreeBe p1 r7 r11 σ12) fun _ σ14 =>
  z_chk (z_in (76 + p1) 100) <|
  z_bnd (f12_held ((σ14 1 (z_ix (76 + p1))) + r5) (-99) 99 σ14) fun r16 σ17 =>
  z_chk (z_in (76 + p1) 100) <|
  z_let (z_set σ17 1 (z_ix (76 + p1)) r16) fun σ19 =>
  z_chk (z_in (92 + p1) 100) <|
  z_let (z_set σ19 1 (z_ix (92 + p1)) 0) fun σ21 =>
  z_chk (z_in (76 + p1) 100) <|
  if σ21 1 (z_ix (76 + p1)) < 1 then
    z_bnd (f12_loses p1 2 σ21) fun _ σ24 =>
    some ((), σ24)
  else
    some ((), σ21)
def f12_freezes_L31 : Nat → Int32 → z_M → Option (Unit × z_M)
  | 0, _, _ => none
  | n + 1, v1, σ =>
    if v1 < σ 0 6 then
      z_bnd (f12_potOf v1 σ) fun r1 σ2 =>
      if r1 = (-1) then
        f12_freezes_L31 n (v1 + 1) σ2
      else
        z_bnd (f12_draw 10 σ2) fun r3 σ4 =>
        z_chk (z_in (84 + v1) 100) <|
        if r3 < σ4 1 (z_ix (84 + v1)) then
          z_bnd (f12_loses v1 3 σ4) fun _ σ7 =>
          f12_freezes_L31 n (v1 + 1) σ7
        else
          f12_freezes_L31 n (v1 + 1) σ4
    else
      some ((), σ)
def f12_freezes (σ : z_M) : Option (Unit × z_M) :=
  if σ 0 5 = 0 then
    if σ 0 8 = 0 then
      some ((), σ)
    else
      z_bnd (f12_draw 1000 σ) fun r1 σ2 =>
      if r1 < σ2 0 8 then
        f12_freezes_L31 z_fu 0 σ2
      else
        some ((), σ2)
  else
    some ((), σ)
def f12_emptyBy_L2 : Nat → Int32 → Int32 → z_M → Option (Int32 × z_M)
  | 0, _, _, _ => none
  | n + 1, v1, v2, σ =>
    if v2 < σ 0 6 then
      z_chk (z_in v1 8) <|
      if (z_shr (σ 5 (z_ix v1)) v2) &&& 1 = 1 then
        z_bnd (f12_potOf v2 σ) fun r2 σ3 =>
        if r2 = (-1) then
          some (v2, σ3)
        else
          f12_emptyBy_L2 n v1 (v2 + 1) σ3
      else
        f12_emptyBy_L2 n v1 (v2 + 1) σ
    else
      some ((-1), σ)
def f12_emptyBy (p1 : Int32) (σ : z_M) : Option (Int32 × z_M) :=
  f12_emptyBy_L2 z_fu p1 0 σ
def f12_swarms (p1 : Int32) (σ : z_M) : Option (Unit × z_M) :=
  z_bnd (f12_draw 1000 σ) fun r1 σ2 =>
  if r1 < σ2 0 9 then
    z_bnd (f12_emptyBy p1 σ2) fun r3 σ4 =>
    z_bnd (f12_asks p1 σ4) fun _ σ6 =>
    z_bnd (f12_seedAsked σ6) fun r7 σ8 =>
    if r3 = (-1) then
      some ((), σ8)
    else
      if 0 < r7 then
        z_bnd (f12_potOf p1 σ8) fun r9 σ10 =>
        z_chk (z_in (84 + p1) 100) <|
        z_bnd (f12_pots r3 r9 r7 (σ10 1 (z_ix (84 + p1))) 4 σ10) fun _ σ13 =>
        some ((), σ13)
      else
        some ((), σ8)
  else
    some ((), σ2)
def f12_carriesOn_L64 : Nat → Int32 → Int32 → z_M → Option (Unit × z_M)
  | 0, _, _, _ => none
  | n + 1, v1, v2, σ =>
    if v2 < σ 0 6 then
      if (z_shr v1 v2) &&& 1 = 1 then
        z_bnd (f12_swarms v2 σ) fun _ σ2 =>
        f12_carriesOn_L64 n v1 (v2 + 1) σ2
      else
        f12_carriesOn_L64 n v1 (v2 + 1) σ
    else
      some ((), σ)
def f12_carriesOn_J62 (v1 : Int32) (σ : z_M) : Option (Unit × z_M) :=
  f12_carriesOn_L64 z_fu v1 0 σ
def f12_carriesOn_L19 : Nat → Int32 → Int32 → z_M → Option (Unit × z_M)
  | 0, _, _, _ => none
  | n + 1, v1, v2, σ =>
    if v2 < σ 0 6 then
      z_bnd (f12_potOf v2 σ) fun r1 σ2 =>
      if r1 = (-1) then
        f12_carriesOn_L19 n v1 (v2 + 1) σ2
      else
        z_chk (z_in (76 + v2) 100) <|
        if σ2 1 (z_ix (76 + v2)) < 50 then
          f12_carriesOn_L19 n v1 (v2 + 1) σ2
        else
          f12_carriesOn_L19 n (v1 ||| (z_shl 1 v2)) (v2 + 1) σ2
    else
      f12_carriesOn_J62 v1 σ
def f12_carriesOn (σ : z_M) : Option (Unit × z_M) :=
  if σ 0 5 = 0 then
    if σ 0 9 = 0 then
      some ((), σ)
    else
      f12_carriesOn_L19 z_fu 0 0 σ
  else
    some ((), σ)
def f12_inspects_L45 : Nat → Int32 → z_M → Option (Unit × z_M)
  | 0, _, _ => none
  | n + 1, v1, σ =>
    if v1 < σ 0 6 then
      z_bnd (f12_suresOf v1 σ) fun r1 σ2 =>
      z_bnd (f12_onesOf r1 σ2) fun r3 σ4 =>
      z_bnd (f12_most σ4) fun r5 σ6 =>
      if r5 < r3 then
        z_chk (z_in 3 100) <|
        z_chk (z_in 3 100) <|
        z_let (z_set σ6 1 (z_ix 3) ((σ6 1 (z_ix 3)) + 1)) fun σ9 =>
        z_bnd (f12_suresOf v1 σ9) fun r10 σ11 =>
        z_bnd (f12_onesOf r10 σ11) fun r12 σ13 =>
        z_bnd (f12_notes 5 v1 r12 σ13) fun _ σ15 =>
        f12_inspects_L45 n (v1 + 1) σ15
      else
        f12_inspects_L45 n (v1 + 1) σ6
    else
      some ((), σ)
def f12_inspects_J43 (σ : z_M) : Option (Unit × z_M) :=
  f12_inspects_L45 z_fu 0 σ
def f12_inspects_L12 : Nat → Int32 → z_M → Option (Unit × z_M)
  | 0, _, _ => none
  | n + 1, v1, σ =>
    if v1 < 0 then
      f12_inspects_J43 σ
    else
      z_bnd (f12_suresOf v1 σ) fun r1 σ2 =>
      z_bnd (f12_onesOf r1 σ2) fun r3 σ4 =>
      z_bnd (f12_most σ4) fun r5 σ6 =>
      if r5 < r3 then
        z_let (z_set σ6 0 44 v1) fun σ7 =>
        f12_inspects_L12 n (v1 + (-1)) σ7
      else
        f12_inspects_L12 n (v1 + (-1)) σ6
def f12_inspects (σ : z_M) : Option (Unit × z_M) :=
  z_let (z_set σ 0 44 (-1)) fun σ1 =>
  f12_inspects_L12 z_fu ((σ1 0 6) - 1) σ1
def f12_goesBy_J145 (σ : z_M) : Option (Unit × z_M) :=
  z_bnd (f12_freezes σ) fun _ σ2 =>
  z_bnd (f12_carriesOn σ2) fun _ σ4 =>
  z_bnd (f12_inspects σ4) fun _ σ6 =>
  z_chk (z_in 0 100) <|
  z_chk (z_in 0 100) <|
  z_let (z_set σ6 1 (z_ix 0) ((σ6 1 (z_ix 0)) + 1)) fun σ9 =>
  some ((), σ9)
def f12_goesBy_L117 : Nat → Int32 → z_M → Option (Unit × z_M)
  | 0, _, _ => none
  | n + 1, v1, σ =>
    if v1 < σ 0 6 then
      z_bnd (f12_potOf v1 σ) fun r1 σ2 =>
      if r1 = (-1) then
        f12_goesBy_L117 n (v1 + 1) σ2
      else
        z_bnd (f12_grows v1 σ2) fun _ σ4 =>
        f12_goesBy_L117 n (v1 + 1) σ4
    else
      f12_goesBy_J145 σ
def f12_goesBy_J115 (σ : z_M) : Option (Unit × z_M) :=
  f12_goesBy_L117 z_fu 0 σ
def f12_goesBy_L96 : Nat → Int32 → z_M → Option (Unit × z_M)
  | 0, _, _ => none
  | n + 1, v1, σ =>
    if v1 < σ 0 6 then
      z_bnd (f12_reasonsAt v1 σ) fun _ σ2 =>
      f12_goesBy_L96 n (v1 + 1) σ2
    else
      f12_goesBy_J115 σ
def f12_goesBy_J94 (σ : z_M) : Option (Unit × z_M) :=
  f12_goesBy_L96 z_fu 0 σ
def f12_goesBy_L2 : Nat → Int32 → z_M → Option (Unit × z_M)
  | 0, _, _ => none
  | n + 1, v1, σ =>
    if v1 < σ 0 40 then
      z_chk (z_in (5 * v1) 160) <|
      z_chk (z_in 0 100) <|
      if σ 19 (z_ix (5 * v1)) = σ 1 (z_ix 0) then
        z_chk (z_in ((5 * v1) + 1) 160) <|
        z_chk (z_in ((5 * v1) + 2) 160) <|
        z_bnd (f12_canDo (σ 19 (z_ix ((5 * v1) + 1))) (σ 19 (z_ix ((5 * v1) + 2))) σ) fun r5 σ6 =>
        if r5 = 0 then
          f12_goesBy_L2 n (v1 + 1) σ6
        else
          z_chk (z_in ((5 * v1) + 1) 160) <|
          z_chk (z_in ((5 * v1) + 2) 160) <|
          z_chk (z_in ((5 * v1) + 3) 160) <|
          z_chk (z_in ((5 * v1) + 4) 160) <|
          z_bnd (f12_does (σ6 19 (z_ix ((5 * v1) + 1))) (σ6 19 (z_ix ((5 * v1) + 2))) (σ6 19 (z_ix ((5 * v1) + 3))) (σ6 19 (z_ix ((5 * v1) + 4))) σ6) fun _ σ12 =>
          f12_goesBy_L2 n (v1 + 1) σ12
      else
        f12_goesBy_L2 n (v1 + 1) σ
    else
      f12_goesBy_J94 σ
def f12_goesBy (σ : z_M) : Option (Unit × z_M) :=
  f12_goesBy_L2 z_fu 0 σ
def f12_weeks_J60 (v2 : Int32) (σ : z_M) : Option (Int32 × z_M) :=
  z_chk (z_in 3 100) <|
  some ((σ 1 (z_ix 3)) - v2, σ)
def f12_weeks_L41 : Nat → Int32 → Int32 → Int32 → z_M → Option (Int32 × z_M)
  | 0, _, _, _, _ => none
  | n + 1, v1, v2, v3, σ =>
    if v3 < v1 then
      z_bnd (f12_keepsAhead σ) fun _ σ2 =>
      z_bnd (f12_goesBy σ2) fun _ σ4 =>
      f12_weeks_L41 n v1 v2 (v3 + 1) σ4
    else
      f12_weeks_J60 v2 σ
def f12_weeks (p1 : Int32) (σ : z_M) : Option (Int32 × z_M) :=
  z_let (z_set σ 0 0 0) fun σ1 =>
  z_bnd (f12_isIn p1 1 60 σ1) fun r2 σ3 =>
  if r2 = 0 then
    some ((-1), σ3)
  else
    z_chk (z_in 0 100) <|
    if 999 < (σ3 1 (z_ix 0)) + p1 then
      some ((-1), σ3)
    else
      z_chk (z_in 3 100) <|
      f12_weeks_L41 z_fu p1 (σ3 1 (z_ix 3)) 0 σ3
def f12_ofPot (p1 : Int32) (p2 : Int32) (σ : z_M) : Option (Int32 × z_M) :=
  z_bnd (f12_potOf p1 σ) fun r1 σ2 =>
  if r1 = (-1) then
    some ((-100), σ2)
  else
    z_bnd (f12_asks p1 σ2) fun _ σ4 =>
    if p2 = 6 then
      z_bnd (f12_growAsked σ4) fun r9 σ10 =>
      some (r9, σ10)
    else
      if p2 = 7 then
        z_bnd (f12_lowerAsked σ4) fun r7 σ8 =>
        some (r7, σ8)
      else
        z_bnd (f12_seedAsked σ4) fun r5 σ6 =>
        some (r5, σ6)
def f12_of_J31 (v1 : Int32) (v2 : Int32) (s0 : Int32) (σ : z_M) : Option (Int32 × z_M) :=
  if v2 = 0 then
    z_bnd (f12_potOf v1 σ) fun r15 σ16 =>
    some (r15, σ16)
  else
    if v2 = 1 then
      if s0 = 0 then
        some (0, σ)
      else
        z_chk (z_in (76 + v1) 100) <|
        some (σ 1 (z_ix (76 + v1)), σ)
    else
      if v2 = 2 then
        if s0 = 0 then
          some ((-1), σ)
        else
          z_chk (z_in (84 + v1) 100) <|
          some (σ 1 (z_ix (84 + v1)), σ)
      else
        if v2 = 3 then
          if s0 = 0 then
            some (0, σ)
          else
            z_chk (z_in (92 + v1) 100) <|
            some (σ 1 (z_ix (92 + v1)), σ)
        else
          if v2 = 4 then
            z_bnd (f12_suresOf v1 σ) fun r10 σ11 =>
            some (r10, σ11)
          else
            if v2 = 5 then
              z_chk (z_in v1 8) <|
              some (σ 5 (z_ix v1), σ)
            else
              z_bnd (f12_isIn v2 6 8 σ) fun r1 σ2 =>
              if r1 = 0 then
                z_bnd (f12_isIn v2 10 17 σ2) fun r3 σ4 =>
                if r3 = 0 then
                  some ((-1000), σ4)
                else
                  z_bnd (f12_degreeOf v1 (v2 - 10) σ4) fun r5 σ6 =>
                  some (r5, σ6)
              else
                z_bnd (f12_ofPot v1 v2 σ2) fun r7 σ8 =>
                some (r7, σ8)
def f12_of (p1 : Int32) (p2 : Int32) (σ : z_M) : Option (Int32 × z_M) :=
  z_let (z_set σ 0 0 0) fun σ1 =>
  z_bnd (f12_isHouse p1 σ1) fun r2 σ3 =>
  if r2 = 0 then
    some ((-1000), σ3)
  else
    z_bnd (f12_potOf p1 σ3) fun r4 σ5 =>
    if r4 = (-1) then
      f12_of_J31 p1 p2 0 σ5
    else
      f12_of_J31 p1 p2 1 σ5
def f12_reason_J39 (σ : z_M) : Option (Int32 × z_M) :=
  some ((-1), σ)
def f12_reason (p1 : Int32) (p2 : Int32) (σ : z_M) : Option (Int32 × z_M) :=
  z_let (z_set σ 0 0 0) fun σ1 =>
  z_bnd (f12_isIn p1 0 ((σ1 0 36) - 1) σ1) fun r2 σ3 =>
  if r2 = 0 then
    f12_reason_J39 σ3
  else
    z_bnd (f12_isIn p2 0 2 σ3) fun r4 σ5 =>
    if r4 = 0 then
      f12_reason_J39 σ5
    else
      z_bnd (f12_ofReason p1 p2 σ5) fun r6 σ7 =>
      some (r6, σ7)
def f12_book_J45 (σ : z_M) : Option (Int32 × z_M) :=
  some ((-1), σ)
def f12_book (p1 : Int32) (p2 : Int32) (σ : z_M) : Option (Int32 × z_M) :=
  z_let (z_set σ 0 0 0) fun σ1 =>
  z_chk (z_in 2 100) <|
  z_bnd (f12_isIn p1 0 ((σ1 1 (z_ix 2)) - 1) σ1) fun r3 σ4 =>
  if r3 = 0 then
    f12_book_J45 σ4
  else
    z_bnd (f12_isIn p2 0 3 σ4) fun r5 σ6 =>
    if r5 = 0 then
      f12_book_J45 σ6
    else
      z_chk (z_in ((4 * p1) + p2) 600) <|
      some (σ6 6 (z_ix ((4 * p1) + p2)), σ6)
def f12_first_J87 (v2 : Int32) (v3 : Int32) (v4 : Int32) (σ : z_M) : Option (Int32 × z_M) :=
  z_chk (z_in 3 100) <|
  z_chk (z_in 3 100) <|
  z_bnd (f12_endsThought σ) fun _ σ4 =>
  if v2 = 0 then
    some (v3, σ4)
  else
    if v2 = 1 then
      some (v4, σ4)
    else
      some ((σ 1 (z_ix 3)) - (σ 3 (z_ix 3)), σ4)
def f12_first_L40 : Nat → Int32 → Int32 → Int32 → Int32 → Int32 → z_M → Option (Int32 × z_M)
  | 0, _, _, _, _, _, _ => none
  | n + 1, v1, v2, v3, v4, v5, σ =>
    if v5 < v1 then
      z_bnd (f12_goesBy σ) fun _ σ2 =>
      if v3 = (-1) then
        if σ2 0 44 = (-1) then
          f12_first_L40 n v1 v2 v3 v4 (v5 + 1) σ2
        else
          z_chk (z_in 0 100) <|
          f12_first_L40 n v1 v2 (σ2 0 44) ((σ2 1 (z_ix 0)) - 1) (v5 + 1) σ2
      else
        f12_first_L40 n v1 v2 v3 v4 (v5 + 1) σ2
    else
      f12_first_J87 v2 v3 v4 σ
def f12_first (p1 : Int32) (p2 : Int32) (σ : z_M) : Option (Int32 × z_M) :=
  z_let (z_set σ 0 0 0) fun σ1 =>
  z_bnd (f12_isIn p1 1 60 σ1) fun r2 σ3 =>
  if r2 = 0 then
    some ((-1), σ3)
  else
    z_bnd (f12_isIn p2 0 2 σ3) fun r4 σ5 =>
    if r4 = 0 then
      some ((-1), σ5)
    else
      z_bnd (f12_thinks σ5) fun _ σ7 =>
      f12_first_L40 z_fu p1 p2 (-1) (-1) 0 σ7
def f12_findsNeeds_J116 (k2 : Int32 → z_M → Option (Unit × z_M)) (v1 : Int32) (σ : z_M) : Option (Unit × z_M) :=
  k2 (v1 + 1) σ
def f12_findsNeeds_L49 (k2 : Int32 → z_M → Option (Unit × z_M)) : Nat → Int32 → Int32 → z_M → Option (Unit × z_M)
  | 0, _, _, _ => none
  | n + 1, v1, v2, σ =>
    if v2 < σ 0 38 then
      z_chk (z_in (3 * v2) 72) <|
      if σ 18 (z_ix (3 * v2)) = v1 then
        z_chk (z_in ((3 * v2) + 1) 72) <|
        if σ 18 (z_ix ((3 * v2) + 1)) = 1 then
          z_chk (z_in v1 8) <|
          z_chk (z_in ((3 * v2) + 2) 72) <|
          z_chk (z_in v1 8) <|
          z_let (z_set σ 22 (z_ix v1) ((σ 22 (z_ix v1)) &&& ((z_shl 1 (σ 18 (z_ix ((3 * v2) + 2)))) ^^^ (-1)))) fun σ6 =>
          f12_findsNeeds_L49 k2 n v1 (v2 + 1) σ6
        else
          f12_findsNeeds_L49 k2 n v1 (v2 + 1) σ
      else
        f12_findsNeeds_L49 k2 n v1 (v2 + 1) σ
    else
      f12_findsNeeds_J116 k2 v1 σ
def f12_findsNeeds_L2 : Nat → Int32 → z_M → Option (Unit × z_M)
  | 0, _, _ => none
  | n + 1, v1, σ =>
    if v1 < σ 0 6 then
      z_bnd (f12_suresOf v1 σ) fun r1 σ2 =>
      z_chk (z_in v1 8) <|
      z_let (z_set σ2 22 (z_ix v1) r1) fun σ4 =>
      z_chk (z_in v1 8) <|
      z_bnd (f12_onesOf (σ4 22 (z_ix v1)) σ4) fun r6 σ7 =>
      z_bnd (f12_most σ7) fun r8 σ9 =>
      z_bnd (f12_greater 0 (r6 - r8) σ9) fun r10 σ11 =>
      z_chk (z_in v1 8) <|
      z_let (z_set σ11 23 (z_ix v1) r10) fun σ13 =>
      f12_findsNeeds_L49 (f12_findsNeeds_L2 n) z_fu v1 0 σ13
    else
      some ((), σ)
def f12_findsNeeds (σ : z_M) : Option (Unit × z_M) :=
  f12_findsNeeds_L2 z_fu 0 σ
def f12_freeThing_L2 : Nat → Int32 → Int32 → z_M → Option (Int32 × z_M)
  | 0, _, _, _ => none
  | n + 1, v1, v2, σ =>
    if v2 < 8 then
      z_chk (z_in v1 8) <|
      z_chk (z_in v1 8) <|
      if ((σ 22 (z_ix v1)) &&& ((σ 24 (z_ix v1)) ^^^ (-1))) &&& (z_shl 1 v2) = 0 then
        f12_freeThing_L2 n v1 (v2 + 1) σ
      else
        z_chk (z_in v2 8) <|
        if 0 < σ 25 (z_ix v2) then
          some (v2, σ)
        else
          f12_freeThing_L2 n v1 (v2 + 1) σ
    else
      some ((-1), σ)
def f12_freeThing (p1 : Int32) (σ : z_M) : Option (Int32 × z_M) :=
  f12_freeThing_L2 z_fu p1 0 σ
def f12_reaches_J25 (k2 : Int32 → Int32 → Int32 → z_M → Option (Int32 × z_M)) (v1 : Int32) (v2 : Int32) (v3 : Int32) (s1 : Int32) (s2 : Int32) (σ : z_M) : Option (Int32 × z_M) :=
  z_chk (z_in s1 8) <|
  z_let (z_set σ 26 (z_ix s1) s2) fun σ2 =>
  k2 v1 v2 (v3 + 1) σ2
def f12_reaches_J167 (k34 : Int32 → Int32 → z_M → Option (Int32 × z_M)) (k43 : Int32 → Int32 → Int32 → z_M → Option (Int32 × z_M)) (v1 : Int32) (v3 : Int32) (v4 : Int32) (σ : z_M) : Option (Int32 × z_M) :=
  k43 v1 v3 (v4 + 1) σ
def f12_reaches_L82 (k34 : Int32 → Int32 → z_M → Option (Int32 × z_M)) (k43 : Int32 → Int32 → Int32 → z_M → Option (Int32 × z_M)) : Nat → Int32 → Int32 → Int32 → Int32 → z_M → Option (Int32 × z_M)
  | 0, _, _, _, _, _ => none
  | n + 1, v1, v3, v4, v5, σ =>
    if v5 < σ 0 6 then
      z_chk (z_in v4 8) <|
      z_chk (z_in v4 8) <|
      z_chk (z_in v5 8) <|
      z_let (((σ 22 (z_ix v4)) &&& ((σ 24 (z_ix v4)) ^^^ (-1))) &&& (σ 24 (z_ix v5))) fun x4 =>
      z_chk (z_in v5 8) <|
      if σ 26 (z_ix v5) = (-1) then
        if x4 = 0 then
          f12_reaches_L82 k34 k43 n v1 v3 v4 (v5 + 1) σ
        else
          z_chk (z_in v5 8) <|
          z_let (z_set σ 26 (z_ix v5) v4) fun σ7 =>
          z_chk (z_in v5 8) <|
          z_let (z_set σ7 27 (z_ix v5) (x4 &&& (-x4))) fun σ9 =>
          f12_reaches_L82 k34 k43 n v1 1 v4 (v5 + 1) σ9
      else
        f12_reaches_L82 k34 k43 n v1 v3 v4 (v5 + 1) σ
    else
      f12_reaches_J167 k34 k43 v1 v3 v4 σ
def f12_reaches_J173 (k34 : Int32 → Int32 → z_M → Option (Int32 × z_M)) (v1 : Int32) (v3 : Int32) (σ : z_M) : Option (Int32 × z_M) :=
  k34 v1 v3 σ
def f12_reaches_L43 (k34 : Int32 → Int32 → z_M → Option (Int32 × z_M)) : Nat → Int32 → Int32 → Int32 → z_M → Option (Int32 × z_M)
  | 0, _, _, _, _ => none
  | n + 1, v1, v3, v4, σ =>
    if v4 < σ 0 6 then
      z_chk (z_in v4 8) <|
      if σ 26 (z_ix v4) = (-1) then
        f12_reaches_J167 k34 (f12_reaches_L43 k34 n) v1 v3 v4 σ
      else
        z_bnd (f12_freeThing v4 σ) fun r2 σ3 =>
        if r2 = (-1) then
          f12_reaches_L82 k34 (f12_reaches_L43 k34 n) z_fu v1 v3 v4 v1 σ3
        else
          some (v4, σ3)
    else
      f12_reaches_J173 k34 v1 v3 σ
def f12_reaches_L34 : Nat → Int32 → Int32 → z_M → Option (Int32 × z_M)
  | 0, _, _, _ => none
  | n + 1, v1, v3, σ =>
    if v3 = 0 then
      some ((-1), σ)
    else
      f12_reaches_L43 (f12_reaches_L34 n) z_fu v1 0 0 σ
def f12_reaches_J32 (v1 : Int32) (σ : z_M) : Option (Int32 × z_M) :=
  f12_reaches_L34 z_fu v1 1 σ
def f12_reaches_L2 : Nat → Int32 → Int32 → Int32 → z_M → Option (Int32 × z_M)
  | 0, _, _, _, _ => none
  | n + 1, v1, v2, v3, σ =>
    if v3 < σ 0 6 then
      if v3 = v2 then
        f12_reaches_J25 (f12_reaches_L2 n) v1 v2 v3 v3 v2 σ
      else
        f12_reaches_J25 (f12_reaches_L2 n) v1 v2 v3 v3 (-1) σ
    else
      f12_reaches_J32 v1 σ
def f12_reaches (p1 : Int32) (p2 : Int32) (σ : z_M) : Option (Int32 × z_M) :=
  f12_reaches_L2 z_fu p1 p2 0 σ
def f12_getsOne_J90 (v2 : Int32) (v5 : Int32) (σ : z_M) : Option (Int32 × z_M) :=
  z_chk (z_in v2 8) <|
  z_chk (z_in v2 8) <|
  z_let (z_set σ 24 (z_ix v2) ((σ 24 (z_ix v2)) ||| v5)) fun σ3 =>
  some (1, σ3)
def f12_getsOne_L43 : Nat → Int32 → Int32 → Int32 → z_M → Option (Int32 × z_M)
  | 0, _, _, _, _ => none
  | n + 1, v2, v3, v5, σ =>
    if v3 = v2 then
      f12_getsOne_J90 v2 v5 σ
    else
      z_chk (z_in v3 8) <|
      z_chk (z_in v3 8) <|
      z_chk (z_in v3 8) <|
      z_let (z_set σ 24 (z_ix v3) (((σ 24 (z_ix v3)) &&& ((σ 27 (z_ix v3)) ^^^ (-1))) ||| v5)) fun σ4 =>
      z_chk (z_in v3 8) <|
      f12_getsOne_L43 n v2 (σ4 26 (z_ix v3)) (σ 27 (z_ix v3)) σ4
def f12_getsOne (p1 : Int32) (p2 : Int32) (σ : z_M) : Option (Int32 × z_M) :=
  z_bnd (f12_reaches p1 p2 σ) fun r1 σ2 =>
  if r1 = (-1) then
    some (0, σ2)
  else
    z_bnd (f12_freeThing r1 σ2) fun r3 σ4 =>
    z_chk (z_in r3 8) <|
    z_chk (z_in r3 8) <|
    z_let (z_set σ4 25 (z_ix r3) ((σ4 25 (z_ix r3)) - 1)) fun σ7 =>
    f12_getsOne_L43 z_fu p2 r1 (z_shl 1 r3) σ7
def f12_canAll_J50 (k4 : Int32 → Int32 → Int32 → z_M → Option (Int32 × z_M)) (v1 : Int32) (v2 : Int32) (v3 : Int32) (σ : z_M) : Option (Int32 × z_M) :=
  k4 v1 v2 (v3 + 1) σ
def f12_canAll_L22 (k4 : Int32 → Int32 → Int32 → z_M → Option (Int32 × z_M)) : Nat → Int32 → Int32 → Int32 → Int32 → z_M → Option (Int32 × z_M)
  | 0, _, _, _, _, _ => none
  | n + 1, v1, v2, v3, v4, σ =>
    z_chk (z_in v3 8) <|
    if v4 < σ 23 (z_ix v3) then
      if v2 = 0 then
        f12_canAll_J50 k4 v1 v2 v3 σ
      else
        z_bnd (f12_getsOne v1 v3 σ) fun r2 σ3 =>
        f12_canAll_L22 k4 n v1 r2 v3 (v4 + 1) σ3
    else
      f12_canAll_J50 k4 v1 v2 v3 σ
def f12_canAll_L4 : Nat → Int32 → Int32 → Int32 → z_M → Option (Int32 × z_M)
  | 0, _, _, _, _ => none
  | n + 1, v1, v2, v3, σ =>
    if v3 < σ 0 6 then
      z_chk (z_in v3 8) <|
      z_let (z_set σ 24 (z_ix v3) 0) fun σ3 =>
      f12_canAll_L22 (f12_canAll_L4 n) z_fu v1 v2 v3 0 σ3
    else
      z_chk (z_01 v2) <|
      some (v2, σ)
def f12_canAll (p1 : Int32) (σ : z_M) : Option (Int32 × z_M) :=
  f12_canAll_L4 z_fu p1 1 p1 σ
def f12_canTake_J141 (v1 : Int32) (σ : z_M) : Option (Int32 × z_M) :=
  z_bnd (f12_canAll (v1 + 1) σ) fun r1 σ2 =>
  z_chk (z_01 r1) <|
  some (r1, σ2)
def f12_canTake_L120 : Nat → Int32 → Int32 → z_M → Option (Int32 × z_M)
  | 0, _, _, _ => none
  | n + 1, v1, v3, σ =>
    if v3 < σ 0 6 then
      z_chk (z_in v3 8) <|
      z_let (z_set σ 24 (z_ix v3) 0) fun σ2 =>
      f12_canTake_L120 n v1 (v3 + 1) σ2
    else
      f12_canTake_J141 v1 σ
def f12_canTake_J118 (v1 : Int32) (σ : z_M) : Option (Int32 × z_M) :=
  f12_canTake_L120 z_fu v1 0 σ
def f12_canTake_L95 : Nat → Int32 → Int32 → z_M → Option (Int32 × z_M)
  | 0, _, _, _ => none
  | n + 1, v1, v3, σ =>
    if v3 < 8 then
      z_chk (z_in v3 8) <|
      if σ 25 (z_ix v3) < 0 then
        some (0, σ)
      else
        f12_canTake_L95 n v1 (v3 + 1) σ
    else
      f12_canTake_J118 v1 σ
def f12_canTake_J93 (v1 : Int32) (σ : z_M) : Option (Int32 × z_M) :=
  f12_canTake_L95 z_fu v1 0 σ
def f12_canTake_J87 (k35 : Int32 → Int32 → z_M → Option (Int32 × z_M)) (v1 : Int32) (v3 : Int32) (σ : z_M) : Option (Int32 × z_M) :=
  k35 v1 (v3 + 1) σ
def f12_canTake_L43 (k35 : Int32 → Int32 → z_M → Option (Int32 × z_M)) : Nat → Int32 → Int32 → Int32 → z_M → Option (Int32 × z_M)
  | 0, _, _, _, _ => none
  | n + 1, v1, v3, v4, σ =>
    if v4 < 8 then
      z_chk (z_in v3 8) <|
      if (z_shr (σ 28 (z_ix v3)) v4) &&& 1 = 1 then
        z_chk (z_in v4 8) <|
        z_chk (z_in v4 8) <|
        z_let (z_set σ 25 (z_ix v4) ((σ 25 (z_ix v4)) - 1)) fun σ4 =>
        f12_canTake_L43 k35 n v1 v3 (v4 + 1) σ4
      else
        f12_canTake_L43 k35 n v1 v3 (v4 + 1) σ
    else
      f12_canTake_J87 k35 v1 v3 σ
def f12_canTake_L35 : Nat → Int32 → Int32 → z_M → Option (Int32 × z_M)
  | 0, _, _, _ => none
  | n + 1, v1, v3, σ =>
    if v1 < v3 then
      f12_canTake_J93 v1 σ
    else
      f12_canTake_L43 (f12_canTake_L35 n) z_fu v1 v3 0 σ
def f12_canTake_J26 (v1 : Int32) (v2 : Int32) (σ : z_M) : Option (Int32 × z_M) :=
  z_chk (z_in v1 8) <|
  z_let (z_set σ 28 (z_ix v1) v2) fun σ2 =>
  f12_canTake_L35 z_fu v1 0 σ2
def f12_canTake_L2 : Nat → Int32 → Int32 → Int32 → z_M → Option (Int32 × z_M)
  | 0, _, _, _, _ => none
  | n + 1, v1, v2, v3, σ =>
    if v3 < 8 then
      z_chk (z_in v3 8) <|
      z_chk (z_in v3 8) <|
      z_let (z_set σ 25 (z_ix v3) (σ 4 (z_ix v3))) fun σ3 =>
      f12_canTake_L2 n v1 v2 (v3 + 1) σ3
    else
      f12_canTake_J26 v1 v2 σ
def f12_canTake (p1 : Int32) (p2 : Int32) (σ : z_M) : Option (Int32 × z_M) :=
  f12_canTake_L2 z_fu p1 p2 0 σ
def f12_setFor_L2 : Nat → Int32 → Int32 → z_M → Option (Int32 × z_M)
  | 0, _, _, _ => none
  | n + 1, v1, v2, σ =>
    if v2 < 256 then
      z_chk (z_in v1 8) <|
      if v2 &&& ((σ 22 (z_ix v1)) ^^^ (-1)) = 0 then
        z_bnd (f12_onesOf v2 σ) fun r2 σ3 =>
        z_chk (z_in v1 8) <|
        if r2 = σ3 23 (z_ix v1) then
          z_bnd (f12_canTake v1 v2 σ3) fun r5 σ6 =>
          if r5 = 0 then
            f12_setFor_L2 n v1 (v2 + 1) σ6
          else
            some (v2, σ6)
        else
          f12_setFor_L2 n v1 (v2 + 1) σ3
      else
        f12_setFor_L2 n v1 (v2 + 1) σ
    else
      some ((-1), σ)
def f12_setFor (p1 : Int32) (σ : z_M) : Option (Int32 × z_M) :=
  f12_setFor_L2 z_fu p1 0 σ
def f12_gives_J86 (v1 : Int32) (v2 : Int32) (σ : z_M) : Option (Int32 × z_M) :=
  if v1 = 0 then
    some (v2, σ)
  else
    z_chk (z_in (v1 - 10) 8) <|
    some (σ 28 (z_ix (v1 - 10)), σ)
def f12_gives_L36 : Nat → Int32 → Int32 → Int32 → z_M → Option (Int32 × z_M)
  | 0, _, _, _, _ => none
  | n + 1, v1, v2, v3, σ =>
    if v3 < σ 0 6 then
      z_bnd (f12_setFor v3 σ) fun r1 σ2 =>
      z_chk (z_in v3 8) <|
      z_let (z_set σ2 28 (z_ix v3) r1) fun σ4 =>
      z_chk (z_in v3 8) <|
      if σ4 28 (z_ix v3) = (-1) then
        some ((-1), σ4)
      else
        z_chk (z_in v3 8) <|
        z_bnd (f12_onesOf (σ4 28 (z_ix v3)) σ4) fun r7 σ8 =>
        f12_gives_L36 n v1 (v2 + r7) (v3 + 1) σ8
    else
      f12_gives_J86 v1 v2 σ
def f12_gives_J28 (v1 : Int32) (σ : z_M) : Option (Int32 × z_M) :=
  z_bnd (f12_findsNeeds σ) fun _ σ2 =>
  f12_gives_L36 z_fu v1 0 0 σ2
def f12_gives (p1 : Int32) (σ : z_M) : Option (Int32 × z_M) :=
  z_let (z_set σ 0 0 0) fun σ1 =>
  if p1 = 0 then
    f12_gives_J28 p1 σ1
  else
    z_bnd (f12_isIn p1 10 (9 + (σ1 0 6)) σ1) fun r2 σ3 =>
    if r2 = 0 then
      some ((-1), σ3)
    else
      f12_gives_J28 p1 σ3
def f12_done_L9 : Nat → Int32 → Int32 → z_M → Option (Int32 × z_M)
  | 0, _, _, _ => none
  | n + 1, v1, v2, σ =>
    if v2 < σ 0 38 then
      z_chk (z_in (3 * v2) 72) <|
      z_bnd (f12_suresOf (σ 18 (z_ix (3 * v2))) σ) fun r2 σ3 =>
      z_chk (z_in ((3 * v2) + 2) 72) <|
      z_chk (z_in ((3 * v2) + 1) 72) <|
      if (z_shr r2 (σ3 18 (z_ix ((3 * v2) + 2)))) &&& 1 = σ3 18 (z_ix ((3 * v2) + 1)) then
        f12_done_L9 n (v1 ||| (z_shl 1 v2)) (v2 + 1) σ3
      else
        f12_done_L9 n v1 (v2 + 1) σ3
    else
      some (v1, σ)
def f12_done (σ : z_M) : Option (Int32 × z_M) :=
  z_let (z_set σ 0 0 0) fun σ1 =>
  f12_done_L9 z_fu 0 0 σ1
def f12_areAtPeace_L2 : Nat → Int32 → Int32 → z_M → Option (Int32 × z_M)
  | 0, _, _, _ => none
  | n + 1, v1, v2, σ =>
    if v2 < σ 0 36 then
      z_bnd (f12_ofReason v2 2 σ) fun r1 σ2 =>
      if r1 = 0 then
        z_bnd (f12_ofReason v2 0 σ2) fun r3 σ4 =>
        if (z_shr v1 r3) &&& 1 = 1 then
          z_bnd (f12_ofReason v2 1 σ4) fun r5 σ6 =>
          if v1 &&& r5 = 0 then
            f12_areAtPeace_L2 n v1 (v2 + 1) σ6
          else
            some (0, σ6)
        else
          f12_areAtPeace_L2 n v1 (v2 + 1) σ4
      else
        f12_areAtPeace_L2 n v1 (v2 + 1) σ2
    else
      some (1, σ)
def f12_areAtPeace (p1 : Int32) (σ : z_M) : Option (Int32 × z_M) :=
  f12_areAtPeace_L2 z_fu p1 0 σ
def f12_struck_J147 (k42 : Int32 → Int32 → Int32 → Int32 → Int32 → Int32 → z_M → Option (Int32 × z_M)) (v1 : Int32) (v2 : Int32) (v3 : Int32) (v4 : Int32) (v6 : Int32) (s0 : Int32) (σ : z_M) : Option (Int32 × z_M) :=
  k42 v1 v2 v3 v4 s0 (v6 + 1) σ
def f12_struck_J131 (k42 : Int32 → Int32 → Int32 → Int32 → Int32 → Int32 → z_M → Option (Int32 × z_M)) (v1 : Int32) (v2 : Int32) (v3 : Int32) (v5 : Int32) (v6 : Int32) (v7 : Int32) (s0 : Int32) (σ : z_M) : Option (Int32 × z_M) :=
  if v7 < v5 then
    f12_struck_J147 k42 v1 v2 v3 s0 v6 v7 σ
  else
    f12_struck_J147 k42 v1 v2 v3 s0 v6 v5 σ
def f12_struck_J117 (k42 : Int32 → Int32 → Int32 → Int32 → Int32 → Int32 → z_M → Option (Int32 × z_M)) (v1 : Int32) (v2 : Int32) (v3 : Int32) (v4 : Int32) (v5 : Int32) (v6 : Int32) (v7 : Int32) (σ : z_M) : Option (Int32 × z_M) :=
  if v7 < v5 then
    f12_struck_J131 k42 v1 v2 v3 v5 v6 v7 v6 σ
  else
    f12_struck_J131 k42 v1 v2 v3 v5 v6 v7 v4 σ
def f12_struck_L81 (k42 : Int32 → Int32 → Int32 → Int32 → Int32 → Int32 → z_M → Option (Int32 × z_M)) : Nat → Int32 → Int32 → Int32 → Int32 → Int32 → Int32 → Int32 → Int32 → z_M → Option (Int32 × z_M)
  | 0, _, _, _, _, _, _, _, _, _ => none
  | n + 1, v1, v2, v3, v4, v5, v6, v7, v8, σ =>
    if v8 < 8 then
      if (z_shr v6 v8) &&& 1 = 1 then
        z_bnd (f12_degreeOf v1 v8 σ) fun r1 σ2 =>
        f12_struck_L81 k42 n v1 v2 v3 v4 v5 v6 (v7 + r1) (v8 + 1) σ2
      else
        f12_struck_L81 k42 n v1 v2 v3 v4 v5 v6 v7 (v8 + 1) σ
    else
      f12_struck_J117 k42 v1 v2 v3 v4 v5 v6 v7 σ
def f12_struck_J155 (v2 : Int32) (v4 : Int32) (v5 : Int32) (σ : z_M) : Option (Int32 × z_M) :=
  if v2 = 0 then
    some (v5, σ)
  else
    some (v4, σ)
def f12_struck_L42 : Nat → Int32 → Int32 → Int32 → Int32 → Int32 → Int32 → z_M → Option (Int32 × z_M)
  | 0, _, _, _, _, _, _, _ => none
  | n + 1, v1, v2, v3, v4, v5, v6, σ =>
    if v6 < 256 then
      if v6 &&& (v3 ^^^ (-1)) = 0 then
        z_bnd (f12_areAtPeace (v3 &&& (v6 ^^^ (-1))) σ) fun r1 σ2 =>
        if r1 = 0 then
          f12_struck_L42 n v1 v2 v3 v4 v5 (v6 + 1) σ2
        else
          f12_struck_L81 (f12_struck_L42 n) z_fu v1 v2 v3 v4 v5 v6 0 0 σ2
      else
        f12_struck_L42 n v1 v2 v3 v4 v5 (v6 + 1) σ
    else
      f12_struck_J155 v2 v4 v5 σ
def f12_struck (p1 : Int32) (p2 : Int32) (σ : z_M) : Option (Int32 × z_M) :=
  z_let (z_set σ 0 0 0) fun σ1 =>
  z_bnd (f12_isHouse p1 σ1) fun r2 σ3 =>
  if r2 = 0 then
    some ((-1), σ3)
  else
    z_bnd (f12_isIn p2 0 1 σ3) fun r4 σ5 =>
    if r4 = 0 then
      some ((-1), σ5)
    else
      z_bnd (f12_suresOf p1 σ5) fun r6 σ7 =>
      f12_struck_L42 z_fu p1 p2 r6 (-1) 100000 0 σ7
def f12_doesStand_J62 (v3 : Int32) (σ : z_M) : Option (Int32 × z_M) :=
  if v3 = 0 then
    some (1, σ)
  else
    some (0, σ)
def f12_doesStand_L5 : Nat → Int32 → Int32 → Int32 → Int32 → z_M → Option (Int32 × z_M)
  | 0, _, _, _, _, _ => none
  | n + 1, v1, v2, v3, v4, σ =>
    if v4 < σ 0 36 then
      z_bnd (f12_ofReason v4 2 σ) fun r1 σ2 =>
      if r1 = 0 then
        f12_doesStand_L5 n v1 v2 v3 (v4 + 1) σ2
      else
        z_bnd (f12_ofReason v4 0 σ2) fun r3 σ4 =>
        if r3 = v1 then
          z_bnd (f12_ofReason v4 1 σ4) fun r5 σ6 =>
          if r5 &&& (v2 ^^^ (-1)) = 0 then
            some (1, σ6)
          else
            f12_doesStand_L5 n v1 v2 1 (v4 + 1) σ6
        else
          f12_doesStand_L5 n v1 v2 v3 (v4 + 1) σ4
    else
      f12_doesStand_J62 v3 σ
def f12_doesStand (p1 : Int32) (p2 : Int32) (σ : z_M) : Option (Int32 × z_M) :=
  f12_doesStand_L5 z_fu p1 p2 0 0 σ
def f12_down_J113 (v3 : Int32) (v4 : Int32) (σ : z_M) : Option (Int32 × z_M) :=
  some (v3 &&& (v4 ^^^ (-1)), σ)
def f12_down_J110 (k53 : Int32 → Int32 → Int32 → z_M → Option (Int32 × z_M)) (v3 : Int32) (v4 : Int32) (v5 : Int32) (σ : z_M) : Option (Int32 × z_M) :=
  k53 v3 v4 v5 σ
def f12_down_L67 (k53 : Int32 → Int32 → Int32 → z_M → Option (Int32 × z_M)) : Nat → Int32 → Int32 → Int32 → Int32 → z_M → Option (Int32 × z_M)
  | 0, _, _, _, _, _ => none
  | n + 1, v3, v4, v5, v6, σ =>
    if v6 < 8 then
      if (z_shr v3 v6) &&& 1 = 1 then
        z_bnd (f12_doesStand v6 v5 σ) fun r1 σ2 =>
        if r1 = 0 then
          f12_down_L67 k53 n v3 v4 v5 (v6 + 1) σ2
        else
          f12_down_L67 k53 n v3 (v4 ||| (z_shl 1 v6)) v5 (v6 + 1) σ2
      else
        f12_down_L67 k53 n v3 v4 v5 (v6 + 1) σ
    else
      f12_down_J110 k53 v3 v4 v5 σ
def f12_down_L53 : Nat → Int32 → Int32 → Int32 → z_M → Option (Int32 × z_M)
  | 0, _, _, _, _ => none
  | n + 1, v3, v4, v5, σ =>
    if v5 = v4 then
      f12_down_J113 v3 v4 σ
    else
      f12_down_L67 (f12_down_L53 n) z_fu v3 v4 v4 0 σ
def f12_down (p1 : Int32) (p2 : Int32) (σ : z_M) : Option (Int32 × z_M) :=
  z_let (z_set σ 0 0 0) fun σ1 =>
  z_bnd (f12_isHouse p1 σ1) fun r2 σ3 =>
  if r2 = 0 then
    some ((-1), σ3)
  else
    z_bnd (f12_isThing p2 σ3) fun r4 σ5 =>
    if r4 = 0 then
      some ((-1), σ5)
    else
      z_bnd (f12_suresOf p1 σ5) fun r6 σ7 =>
      if (z_shr r6 p2) &&& 1 = 0 then
        some ((-1), σ7)
      else
        z_bnd (f12_suresOf p1 σ7) fun r8 σ9 =>
        f12_down_L53 z_fu (r8 &&& ((z_shl 1 p2) ^^^ (-1))) 0 (-1) σ9
def f12_by_J95 (k30 : Int32 → Int32 → Int32 → z_M → Option (Int32 × z_M)) (v2 : Int32) (v4 : Int32) (v5 : Int32) (σ : z_M) : Option (Int32 × z_M) :=
  k30 v2 v5 (v4 + 1) σ
def f12_by_L43 (k30 : Int32 → Int32 → Int32 → z_M → Option (Int32 × z_M)) : Nat → Int32 → Int32 → Int32 → Int32 → Int32 → z_M → Option (Int32 × z_M)
  | 0, _, _, _, _, _, _ => none
  | n + 1, v2, v3, v4, v5, v6, σ =>
    if v6 < σ 0 6 then
      if (z_shr v3 v6) &&& 1 = 0 then
        f12_by_L43 k30 n v2 v3 v4 v5 (v6 + 1) σ
      else
        z_bnd (f12_potOf v6 σ) fun r1 σ2 =>
        if r1 = v2 then
          some (v4, σ2)
        else
          z_chk (z_in v6 8) <|
          f12_by_L43 k30 n v2 v3 v4 (v5 ||| (σ2 5 (z_ix v6))) (v6 + 1) σ2
    else
      f12_by_J95 k30 v2 v4 v5 σ
def f12_by_L30 : Nat → Int32 → Int32 → Int32 → z_M → Option (Int32 × z_M)
  | 0, _, _, _, _ => none
  | n + 1, v2, v3, v4, σ =>
    if v4 < 8 then
      f12_by_L43 (f12_by_L30 n) z_fu v2 v3 v4 v3 0 σ
    else
      some ((-1), σ)
def f12_by (p1 : Int32) (p2 : Int32) (σ : z_M) : Option (Int32 × z_M) :=
  z_let (z_set σ 0 0 0) fun σ1 =>
  z_bnd (f12_isHouse p1 σ1) fun r2 σ3 =>
  if r2 = 0 then
    some ((-1), σ3)
  else
    z_bnd (f12_isThing p2 σ3) fun r4 σ5 =>
    if r4 = 0 then
      some ((-1), σ5)
    else
      f12_by_L30 z_fu p2 (z_shl 1 p1) 0 σ5
def f12_linesOut_L4 : Nat → Int32 → Int32 → Int32 → z_M → Option (Int32 × z_M)
  | 0, _, _, _, _ => none
  | n + 1, v1, v2, v3, σ =>
    if v3 < σ 0 6 then
      if (z_shr v1 v3) &&& 1 = 1 then
        z_chk (z_in v3 8) <|
        z_bnd (f12_onesOf ((σ 5 (z_ix v3)) &&& (v1 ^^^ (-1))) σ) fun r2 σ3 =>
        f12_linesOut_L4 n v1 (v2 + r2) (v3 + 1) σ3
      else
        f12_linesOut_L4 n v1 v2 (v3 + 1) σ
    else
      some (v2, σ)
def f12_linesOut (p1 : Int32) (σ : z_M) : Option (Int32 × z_M) :=
  f12_linesOut_L4 z_fu p1 0 0 σ
def f12_part_L35 : Nat → Int32 → Int32 → Int32 → Int32 → z_M → Option (Int32 × z_M)
  | 0, _, _, _, _, _ => none
  | n + 1, v1, v2, v3, v4, σ =>
    if v4 < z_shl 1 (σ 0 6) then
      if (z_shr v4 v1) &&& 1 = 1 then
        if (z_shr v4 v2) &&& 1 = 0 then
          z_bnd (f12_linesOut v4 σ) fun r1 σ2 =>
          if r1 < v3 then
            z_bnd (f12_linesOut v4 σ2) fun r3 σ4 =>
            f12_part_L35 n v1 v2 r3 (v4 + 1) σ4
          else
            f12_part_L35 n v1 v2 v3 (v4 + 1) σ2
        else
          f12_part_L35 n v1 v2 v3 (v4 + 1) σ
      else
        f12_part_L35 n v1 v2 v3 (v4 + 1) σ
    else
      some (v3, σ)
def f12_part (p1 : Int32) (p2 : Int32) (σ : z_M) : Option (Int32 × z_M) :=
  z_let (z_set σ 0 0 0) fun σ1 =>
  z_bnd (f12_isHouse p1 σ1) fun r2 σ3 =>
  if r2 = 0 then
    some ((-1), σ3)
  else
    z_bnd (f12_isHouse p2 σ3) fun r4 σ5 =>
    if r4 = 0 then
      some ((-1), σ5)
    else
      if p1 = p2 then
        some ((-1), σ5)
      else
        f12_part_L35 z_fu p1 p2 100000 0 σ5
def f12_talk (p1 : Int32) (p2 : Int32) (p3 : Int32) (σ : z_M) : Option (Int32 × z_M) :=
  z_let (z_set σ 0 0 0) fun σ1 =>
  if p1 = (-1) then
    z_let (z_set σ1 0 52 0) fun σ15 =>
    some (0, σ15)
  else
    z_bnd (f12_isHouse p1 σ1) fun r2 σ3 =>
    if r2 = 0 then
      some ((-1), σ3)
    else
      z_bnd (f12_isThing p2 σ3) fun r4 σ5 =>
      if r4 = 0 then
        some ((-1), σ5)
      else
        z_bnd (f12_isIn p3 0 1 σ5) fun r6 σ7 =>
        if r6 = 0 then
          some ((-1), σ7)
        else
          if σ7 0 52 = 12 then
            some ((-1), σ7)
          else
            z_chk (z_in (σ7 0 52) 12) <|
            z_let (z_set σ7 29 (z_ix (σ7 0 52)) p1) fun σ9 =>
            z_chk (z_in (σ9 0 52) 12) <|
            z_let (z_set σ9 30 (z_ix (σ9 0 52)) p2) fun σ11 =>
            z_chk (z_in (σ11 0 52) 12) <|
            z_let (z_set σ11 31 (z_ix (σ11 0 52)) p3) fun σ13 =>
            z_let (z_set σ13 0 52 ((σ13 0 52) + 1)) fun σ14 =>
            some (σ14 0 52, σ14)
def f12_doesFit_J81 (σ : z_M) : Option (Int32 × z_M) :=
  some (0, σ)
def f12_doesFit_J59 (v2 : Int32) (v3 : Int32) (v4 : Int32) (σ : z_M) : Option (Int32 × z_M) :=
  z_bnd (f12_onesOf v2 σ) fun r1 σ2 =>
  z_bnd (f12_most σ2) fun r3 σ4 =>
  if r3 < r1 then
    f12_doesFit_J81 σ4
  else
    if v3 < v4 then
      f12_doesFit_J81 σ4
    else
      some (1, σ4)
def f12_doesFit_L6 : Nat → Int32 → Int32 → Int32 → Int32 → Int32 → z_M → Option (Int32 × z_M)
  | 0, _, _, _, _, _, _ => none
  | n + 1, v1, v2, v3, v4, v5, σ =>
    if v5 < σ 0 52 then
      z_chk (z_in v5 12) <|
      if σ 29 (z_ix v5) = v1 then
        z_chk (z_in v5 12) <|
        z_chk (z_in v5 12) <|
        if (z_shr v2 (σ 30 (z_ix v5))) &&& 1 = σ 31 (z_ix v5) then
          f12_doesFit_L6 n v1 v2 v3 (v4 + 1) (v5 + 1) σ
        else
          f12_doesFit_L6 n v1 v2 v3 v4 (v5 + 1) σ
      else
        f12_doesFit_L6 n v1 v2 v3 v4 (v5 + 1) σ
    else
      f12_doesFit_J59 v2 v3 v4 σ
def f12_doesFit (p1 : Int32) (p2 : Int32) (p3 : Int32) (σ : z_M) : Option (Int32 × z_M) :=
  f12_doesFit_L6 z_fu p1 p2 p3 0 0 σ
def f12_fitsWith_J29 (k6 : Int32 → Int32 → Int32 → Int32 → Int32 → z_M → Option (Int32 × z_M)) (v1 : Int32) (v2 : Int32) (v3 : Int32) (v4 : Int32) (v5 : Int32) (σ : z_M) : Option (Int32 × z_M) :=
  z_bnd (f12_doesFit v1 v5 v2 σ) fun r1 σ2 =>
  if r1 = 0 then
    k6 v1 v2 v3 v4 (v5 + 1) σ2
  else
    k6 v1 v2 v3 (v4 + 1) (v5 + 1) σ2
def f12_fitsWith_L6 : Nat → Int32 → Int32 → Int32 → Int32 → Int32 → z_M → Option (Int32 × z_M)
  | 0, _, _, _, _, _, _ => none
  | n + 1, v1, v2, v3, v4, v5, σ =>
    if v5 < 256 then
      if v3 = (-1) then
        f12_fitsWith_J29 (f12_fitsWith_L6 n) v1 v2 v3 v4 v5 σ
      else
        if (z_shr v5 v3) &&& 1 = 1 then
          f12_fitsWith_J29 (f12_fitsWith_L6 n) v1 v2 v3 v4 v5 σ
        else
          f12_fitsWith_L6 n v1 v2 v3 v4 (v5 + 1) σ
    else
      some (v4, σ)
def f12_fitsWith (p1 : Int32) (p2 : Int32) (p3 : Int32) (σ : z_M) : Option (Int32 × z_M) :=
  f12_fitsWith_L6 z_fu p1 p2 p3 0 0 σ
def f12_fits_J33 (σ : z_M) : Option (Int32 × z_M) :=
  some ((-1), σ)
def f12_fits (p1 : Int32) (p2 : Int32) (σ : z_M) : Option (Int32 × z_M) :=
  z_let (z_set σ 0 0 0) fun σ1 =>
  z_bnd (f12_isHouse p1 σ1) fun r2 σ3 =>
  if r2 = 0 then
    f12_fits_J33 σ3
  else
    z_bnd (f12_isIn p2 0 3 σ3) fun r4 σ5 =>
    if r4 = 0 then
      f12_fits_J33 σ5
    else
      z_bnd (f12_fitsWith p1 p2 (-1) σ5) fun r6 σ7 =>
      some (r6, σ7)
def f12_ask_J94 (k51 : Int32 → Int32 → Int32 → Int32 → Int32 → Int32 → z_M → Option (Int32 × z_M)) (v1 : Int32) (v2 : Int32) (v3 : Int32) (v5 : Int32) (v6 : Int32) (v8 : Int32) (s0 : Int32) (σ : z_M) : Option (Int32 × z_M) :=
  if v8 < v5 then
    k51 v1 v2 v3 s0 v8 (v6 + 1) σ
  else
    k51 v1 v2 v3 s0 v5 (v6 + 1) σ
def f12_ask_L51 : Nat → Int32 → Int32 → Int32 → Int32 → Int32 → Int32 → z_M → Option (Int32 × z_M)
  | 0, _, _, _, _, _, _, _ => none
  | n + 1, v1, v2, v3, v4, v5, v6, σ =>
    if v6 < 8 then
      z_bnd (f12_fitsWith v1 v2 v6 σ) fun r1 σ2 =>
      z_bnd (f12_greater r1 (v3 - r1) σ2) fun r3 σ4 =>
      if r3 < v5 then
        f12_ask_J94 (f12_ask_L51 n) v1 v2 v3 v5 v6 r3 v6 σ4
      else
        f12_ask_J94 (f12_ask_L51 n) v1 v2 v3 v5 v6 r3 v4 σ4
    else
      some (v4, σ)
def f12_ask (p1 : Int32) (p2 : Int32) (σ : z_M) : Option (Int32 × z_M) :=
  z_let (z_set σ 0 0 0) fun σ1 =>
  z_bnd (f12_isHouse p1 σ1) fun r2 σ3 =>
  if r2 = 0 then
    some ((-1), σ3)
  else
    z_bnd (f12_isIn p2 0 3 σ3) fun r4 σ5 =>
    if r4 = 0 then
      some ((-1), σ5)
    else
      z_bnd (f12_fitsWith p1 p2 (-1) σ5) fun r6 σ7 =>
      if r6 < 2 then
        some ((-1), σ7)
      else
        f12_ask_L51 z_fu p1 p2 r6 (-1) 100000 0 σ7
def f12_livesBy_J188 (v5 : Int32) (σ : z_M) : Option (Int32 × z_M) :=
  z_bnd (f12_thinksAnew σ) fun _ σ2 =>
  z_chk (z_01 v5) <|
  some (v5, σ2)
def f12_livesBy_L17 : Nat → Int32 → Int32 → Int32 → Int32 → Int32 → Int32 → z_M → Option (Int32 × z_M)
  | 0, _, _, _, _, _, _, _ => none
  | n + 1, v1, v2, v3, v4, v5, v6, σ =>
    if v6 < v2 then
      if v5 = 0 then
        f12_livesBy_J188 v5 σ
      else
        z_chk (z_in (92 + v1) 100) <|
        z_bnd (f12_held ((σ 1 (z_ix (92 + v1))) + v3) 0 99 σ) fun r2 σ3 =>
        z_chk (z_in (92 + v1) 100) <|
        z_let (z_set σ3 1 (z_ix (92 + v1)) r2) fun σ5 =>
        z_bnd (f12_asks v1 σ5) fun _ σ7 =>
        z_chk (z_in 6 8) <|
        z_let (z_set σ7 20 (z_ix 6) v4) fun σ9 =>
        z_bnd (f12_lowerAsked σ9) fun r10 σ11 =>
        z_bnd (f12_growAsked σ11) fun r12 σ13 =>
        z_bnd (f12_potOf v1 σ13) fun r14 σ15 =>
        z_bnd (f12_potOf v1 σ15) fun r16 σ17 =>
        z_bnd (f12_degreeOf v1 r16 σ17) fun r18 σ19 =>
        z_bnd (f12_greater 0 (r18 - r10) σ19) fun r20 σ21 =>
        z_bnd (f12_degreeBe v1 r14 r20 σ21) fun _ σ23 =>
        z_chk (z_in (76 + v1) 100) <|
        z_bnd (f12_held ((σ23 1 (z_ix (76 + v1))) + r12) (-99) 99 σ23) fun r25 σ26 =>
        z_chk (z_in (76 + v1) 100) <|
        z_let (z_set σ26 1 (z_ix (76 + v1)) r25) fun σ28 =>
        z_chk (z_in (92 + v1) 100) <|
        z_let (z_set σ28 1 (z_ix (92 + v1)) 0) fun σ30 =>
        z_chk (z_in 0 100) <|
        z_chk (z_in 0 100) <|
        z_let (z_set σ30 1 (z_ix 0) ((σ30 1 (z_ix 0)) + 1)) fun σ33 =>
        z_chk (z_in (76 + v1) 100) <|
        if σ33 1 (z_ix (76 + v1)) < 1 then
          f12_livesBy_L17 n v1 v2 v3 v4 0 (v6 + 1) σ33
        else
          f12_livesBy_L17 n v1 v2 v3 v4 1 (v6 + 1) σ33
    else
      f12_livesBy_J188 v5 σ
def f12_livesBy (p1 : Int32) (p2 : Int32) (p3 : Int32) (σ : z_M) : Option (Int32 × z_M) :=
  z_bnd (f12_suresOf p1 σ) fun r1 σ2 =>
  z_bnd (f12_onesOf r1 σ2) fun r3 σ4 =>
  f12_livesBy_L17 z_fu p1 p2 p3 r3 1 0 σ4
def f12_waters_J99 (v3 : Int32) (v4 : Int32) (v5 : Int32) (σ : z_M) : Option (Int32 × z_M) :=
  z_bnd (f12_endsThought σ) fun _ σ2 =>
  if v3 = 0 then
    some (v4, σ2)
  else
    some (v5, σ2)
def f12_waters_J89 (k58 : Int32 → Int32 → Int32 → Int32 → Int32 → Int32 → z_M → Option (Int32 × z_M)) (v1 : Int32) (v2 : Int32) (v3 : Int32) (v4 : Int32) (v6 : Int32) (σ : z_M) : Option (Int32 × z_M) :=
  k58 v1 v2 v3 v4 v6 (v6 + 1) σ
def f12_waters_L58 : Nat → Int32 → Int32 → Int32 → Int32 → Int32 → Int32 → z_M → Option (Int32 × z_M)
  | 0, _, _, _, _, _, _, _ => none
  | n + 1, v1, v2, v3, v4, v5, v6, σ =>
    if 40 < v6 then
      f12_waters_J99 v3 v4 v5 σ
    else
      z_bnd (f12_livesBy v1 v2 v6 σ) fun r1 σ2 =>
      if r1 = 0 then
        f12_waters_L58 n v1 v2 v3 v4 v5 (v6 + 1) σ2
      else
        if v4 = (-1) then
          f12_waters_J89 (f12_waters_L58 n) v1 v2 v3 v6 v6 σ2
        else
          f12_waters_J89 (f12_waters_L58 n) v1 v2 v3 v4 v6 σ2
def f12_waters (p1 : Int32) (p2 : Int32) (p3 : Int32) (σ : z_M) : Option (Int32 × z_M) :=
  z_let (z_set σ 0 0 0) fun σ1 =>
  z_bnd (f12_isHouse p1 σ1) fun r2 σ3 =>
  if r2 = 0 then
    some ((-1), σ3)
  else
    z_bnd (f12_potOf p1 σ3) fun r4 σ5 =>
    if r4 = (-1) then
      some ((-1), σ5)
    else
      z_bnd (f12_isIn p2 1 30 σ5) fun r6 σ7 =>
      if r6 = 0 then
        some ((-1), σ7)
      else
        z_bnd (f12_isIn p3 0 1 σ7) fun r8 σ9 =>
        if r8 = 0 then
          some ((-1), σ9)
        else
          z_bnd (f12_thinks σ9) fun _ σ11 =>
          f12_waters_L58 z_fu p1 p2 p3 (-1) (-1) 0 σ11
def f12_highOf (p1 : Int32) (σ : z_M) : Option (Int32 × z_M) :=
  z_bnd (f12_potOf p1 σ) fun r1 σ2 =>
  if r1 = (-1) then
    some (0, σ2)
  else
    z_chk (z_in (76 + p1) 100) <|
    some (σ2 1 (z_ix (76 + p1)), σ2)
def f12_game_J68 (v1 : Int32) (v2 : Int32) (v3 : Int32) (σ : z_M) : Option (Int32 × z_M) :=
  if v1 = 0 then
    some (v3, σ)
  else
    z_bnd (f12_highOf v3 σ) fun r1 σ2 =>
    some (r1 ^^^ v2, σ2)
def f12_game_L45 : Nat → Int32 → Int32 → Int32 → z_M → Option (Int32 × z_M)
  | 0, _, _, _, _ => none
  | n + 1, v1, v2, v3, σ =>
    if v3 < σ 0 6 then
      z_bnd (f12_highOf v3 σ) fun r1 σ2 =>
      z_bnd (f12_highOf v3 σ2) fun r3 σ4 =>
      if r1 ^^^ v2 < r3 then
        f12_game_J68 v1 v2 v3 σ4
      else
        f12_game_L45 n v1 v2 (v3 + 1) σ4
    else
      some ((-1), σ)
def f12_game_J43 (v1 : Int32) (v2 : Int32) (σ : z_M) : Option (Int32 × z_M) :=
  f12_game_L45 z_fu v1 v2 0 σ
def f12_game_L21 : Nat → Int32 → Int32 → Int32 → z_M → Option (Int32 × z_M)
  | 0, _, _, _, _ => none
  | n + 1, v1, v2, v3, σ =>
    if v3 < σ 0 6 then
      z_bnd (f12_highOf v3 σ) fun r1 σ2 =>
      f12_game_L21 n v1 (v2 ^^^ r1) (v3 + 1) σ2
    else
      f12_game_J43 v1 v2 σ
def f12_game (p1 : Int32) (σ : z_M) : Option (Int32 × z_M) :=
  z_let (z_set σ 0 0 0) fun σ1 =>
  z_bnd (f12_isIn p1 0 1 σ1) fun r2 σ3 =>
  if r2 = 0 then
    some ((-1), σ3)
  else
    f12_game_L21 z_fu p1 0 0 σ3
def f12_sumOf_L4 : Nat → Int32 → Int32 → Int32 → z_M → Option (Int32 × z_M)
  | 0, _, _, _, _ => none
  | n + 1, v1, v2, v3, σ =>
    if v3 < σ 0 6 then
      if (z_shr v1 v3) &&& 1 = 1 then
        z_bnd (f12_highOf v3 σ) fun r1 σ2 =>
        f12_sumOf_L4 n v1 (v2 + r1) (v3 + 1) σ2
      else
        f12_sumOf_L4 n v1 v2 (v3 + 1) σ
    else
      some (v2, σ)
def f12_sumOf (p1 : Int32) (σ : z_M) : Option (Int32 × z_M) :=
  f12_sumOf_L4 z_fu p1 0 0 σ
def f12_greenhouses_J151 (v2 : Int32) (σ : z_M) : Option (Int32 × z_M) :=
  z_chk (z_in v2 256) <|
  if σ 32 (z_ix v2) < 100000 then
    z_chk (z_in v2 256) <|
    some (σ 32 (z_ix v2), σ)
  else
    some ((-1), σ)
def f12_greenhouses_J134 (k61 : Int32 → Int32 → Int32 → z_M → Option (Int32 × z_M)) (k78 : Int32 → Int32 → Int32 → Int32 → z_M → Option (Int32 × z_M)) (v1 : Int32) (v2 : Int32) (v3 : Int32) (v4 : Int32) (σ : z_M) : Option (Int32 × z_M) :=
  k78 v1 v2 v3 ((v4 - 1) &&& v3) σ
def f12_greenhouses_J145 (k61 : Int32 → Int32 → Int32 → z_M → Option (Int32 × z_M)) (v1 : Int32) (v2 : Int32) (v3 : Int32) (σ : z_M) : Option (Int32 × z_M) :=
  k61 v1 v2 (v3 + 1) σ
def f12_greenhouses_L78 (k61 : Int32 → Int32 → Int32 → z_M → Option (Int32 × z_M)) : Nat → Int32 → Int32 → Int32 → Int32 → z_M → Option (Int32 × z_M)
  | 0, _, _, _, _, _ => none
  | n + 1, v1, v2, v3, v4, σ =>
    if 0 < v4 then
      z_bnd (f12_sumOf v4 σ) fun r1 σ2 =>
      if v1 < r1 then
        f12_greenhouses_J134 k61 (f12_greenhouses_L78 k61 n) v1 v2 v3 v4 σ2
      else
        z_chk (z_in (v3 &&& (v4 ^^^ (-1))) 256) <|
        z_chk (z_in v3 256) <|
        if (σ2 32 (z_ix (v3 &&& (v4 ^^^ (-1))))) + 1 < σ2 32 (z_ix v3) then
          z_chk (z_in (v3 &&& (v4 ^^^ (-1))) 256) <|
          z_chk (z_in v3 256) <|
          z_let (z_set σ2 32 (z_ix v3) ((σ2 32 (z_ix (v3 &&& (v4 ^^^ (-1))))) + 1)) fun σ7 =>
          f12_greenhouses_J134 k61 (f12_greenhouses_L78 k61 n) v1 v2 v3 v4 σ7
        else
          f12_greenhouses_J134 k61 (f12_greenhouses_L78 k61 n) v1 v2 v3 v4 σ2
    else
      f12_greenhouses_J145 k61 v1 v2 v3 σ
def f12_greenhouses_L61 : Nat → Int32 → Int32 → Int32 → z_M → Option (Int32 × z_M)
  | 0, _, _, _, _ => none
  | n + 1, v1, v2, v3, σ =>
    if v2 < v3 then
      f12_greenhouses_J151 v2 σ
    else
      z_chk (z_in v3 256) <|
      z_let (z_set σ 32 (z_ix v3) 100000) fun σ2 =>
      f12_greenhouses_L78 (f12_greenhouses_L61 n) z_fu v1 v2 v3 v3 σ2
def f12_greenhouses_J52 (v1 : Int32) (v2 : Int32) (σ : z_M) : Option (Int32 × z_M) :=
  z_chk (z_in 0 256) <|
  z_let (z_set σ 32 (z_ix 0) 0) fun σ2 =>
  f12_greenhouses_L61 z_fu v1 v2 1 σ2
def f12_greenhouses_L23 : Nat → Int32 → Int32 → Int32 → z_M → Option (Int32 × z_M)
  | 0, _, _, _, _ => none
  | n + 1, v1, v2, v3, σ =>
    if v3 < σ 0 6 then
      z_bnd (f12_potOf v3 σ) fun r1 σ2 =>
      if r1 = (-1) then
        f12_greenhouses_L23 n v1 v2 (v3 + 1) σ2
      else
        f12_greenhouses_L23 n v1 (v2 ||| (z_shl 1 v3)) (v3 + 1) σ2
    else
      f12_greenhouses_J52 v1 v2 σ
def f12_greenhouses (p1 : Int32) (σ : z_M) : Option (Int32 × z_M) :=
  z_let (z_set σ 0 0 0) fun σ1 =>
  z_bnd (f12_isIn p1 1 999 σ1) fun r2 σ3 =>
  if r2 = 0 then
    some ((-1), σ3)
  else
    f12_greenhouses_L23 z_fu p1 0 0 σ3
def f12_keeps (p1 : Int32) (σ : z_M) : Option (Int32 × z_M) :=
  z_let (z_set σ 0 59 ((σ 0 59) + 1)) fun σ1 =>
  if σ1 0 57 = 0 then
    z_chk (z_in ((σ1 0 59) - 1) 2000) <|
    some (σ1 33 (z_ix ((σ1 0 59) - 1)), σ1)
  else
    z_chk (z_in ((σ1 0 59) - 1) 2000) <|
    z_let (z_set σ1 33 (z_ix ((σ1 0 59) - 1)) p1) fun σ3 =>
    some (p1, σ3)
def f12_keepsLaw_L99 : Nat → Int32 → z_M → Option (Unit × z_M)
  | 0, _, _ => none
  | n + 1, v1, σ =>
    if v1 < 800 then
      z_chk (z_in v1 1200) <|
      z_bnd (f12_keeps (σ 14 (z_ix v1)) σ) fun r2 σ3 =>
      z_chk (z_in v1 1200) <|
      z_let (z_set σ3 14 (z_ix v1) r2) fun σ5 =>
      z_chk (z_in v1 1200) <|
      z_bnd (f12_keeps (σ5 15 (z_ix v1)) σ5) fun r7 σ8 =>
      z_chk (z_in v1 1200) <|
      z_let (z_set σ8 15 (z_ix v1) r7) fun σ10 =>
      f12_keepsLaw_L99 n (v1 + 1) σ10
    else
      some ((), σ)
def f12_keepsLaw_J95 (σ : z_M) : Option (Unit × z_M) :=
  f12_keepsLaw_L99 z_fu 400 σ
def f12_keepsLaw_L19 : Nat → Int32 → z_M → Option (Unit × z_M)
  | 0, _, _ => none
  | n + 1, v1, σ =>
    if v1 < 32 then
      z_chk (z_in v1 48) <|
      z_bnd (f12_keeps (σ 10 (z_ix v1)) σ) fun r2 σ3 =>
      z_chk (z_in v1 48) <|
      z_let (z_set σ3 10 (z_ix v1) r2) fun σ5 =>
      z_chk (z_in v1 48) <|
      z_bnd (f12_keeps (σ5 11 (z_ix v1)) σ5) fun r7 σ8 =>
      z_chk (z_in v1 48) <|
      z_let (z_set σ8 11 (z_ix v1) r7) fun σ10 =>
      z_chk (z_in v1 48) <|
      z_bnd (f12_keeps (σ10 12 (z_ix v1)) σ10) fun r12 σ13 =>
      z_chk (z_in v1 48) <|
      z_let (z_set σ13 12 (z_ix v1) r12) fun σ15 =>
      z_chk (z_in v1 48) <|
      z_bnd (f12_keeps (σ15 13 (z_ix v1)) σ15) fun r17 σ18 =>
      z_chk (z_in v1 48) <|
      z_let (z_set σ18 13 (z_ix v1) r17) fun σ20 =>
      f12_keepsLaw_L19 n (v1 + 1) σ20
    else
      f12_keepsLaw_J95 σ
def f12_keepsLaw (σ : z_M) : Option (Unit × z_M) :=
  z_chk (z_in 1 2) <|
  z_bnd (f12_keeps (σ 9 (z_ix 1)) σ) fun r2 σ3 =>
  z_chk (z_in 1 2) <|
  z_let (z_set σ3 9 (z_ix 1) r2) fun σ5 =>
  f12_keepsLaw_L19 z_fu 16 σ5
def f12_keepsTold_L266 : Nat → Int32 → z_M → Option (Unit × z_M)
  | 0, _, _ => none
  | n + 1, v1, σ =>
    if v1 < 80 then
      z_chk (z_in v1 160) <|
      z_bnd (f12_keeps (σ 19 (z_ix v1)) σ) fun r2 σ3 =>
      z_chk (z_in v1 160) <|
      z_let (z_set σ3 19 (z_ix v1) r2) fun σ5 =>
      f12_keepsTold_L266 n (v1 + 1) σ5
    else
      some ((), σ)
def f12_keepsTold_J264 (σ : z_M) : Option (Unit × z_M) :=
  f12_keepsTold_L266 z_fu 0 σ
def f12_keepsTold_L236 : Nat → Int32 → z_M → Option (Unit × z_M)
  | 0, _, _ => none
  | n + 1, v1, σ =>
    if v1 < 36 then
      z_chk (z_in v1 72) <|
      z_bnd (f12_keeps (σ 18 (z_ix v1)) σ) fun r2 σ3 =>
      z_chk (z_in v1 72) <|
      z_let (z_set σ3 18 (z_ix v1) r2) fun σ5 =>
      f12_keepsTold_L236 n (v1 + 1) σ5
    else
      f12_keepsTold_J264 σ
def f12_keepsTold_J234 (σ : z_M) : Option (Unit × z_M) :=
  f12_keepsTold_L236 z_fu 0 σ
def f12_keepsTold_L206 : Nat → Int32 → z_M → Option (Unit × z_M)
  | 0, _, _ => none
  | n + 1, v1, σ =>
    if v1 < 48 then
      z_chk (z_in v1 96) <|
      z_bnd (f12_keeps (σ 17 (z_ix v1)) σ) fun r2 σ3 =>
      z_chk (z_in v1 96) <|
      z_let (z_set σ3 17 (z_ix v1) r2) fun σ5 =>
      f12_keepsTold_L206 n (v1 + 1) σ5
    else
      f12_keepsTold_J234 σ
def f12_keepsTold_J204 (σ : z_M) : Option (Unit × z_M) :=
  f12_keepsTold_L206 z_fu 0 σ
def f12_keepsTold_L144 : Nat → Int32 → z_M → Option (Unit × z_M)
  | 0, _, _ => none
  | n + 1, v1, σ =>
    if v1 < 12 then
      z_chk (z_in v1 12) <|
      z_bnd (f12_keeps (σ 29 (z_ix v1)) σ) fun r2 σ3 =>
      z_chk (z_in v1 12) <|
      z_let (z_set σ3 29 (z_ix v1) r2) fun σ5 =>
      z_chk (z_in v1 12) <|
      z_bnd (f12_keeps (σ5 30 (z_ix v1)) σ5) fun r7 σ8 =>
      z_chk (z_in v1 12) <|
      z_let (z_set σ8 30 (z_ix v1) r7) fun σ10 =>
      z_chk (z_in v1 12) <|
      z_bnd (f12_keeps (σ10 31 (z_ix v1)) σ10) fun r12 σ13 =>
      z_chk (z_in v1 12) <|
      z_let (z_set σ13 31 (z_ix v1) r12) fun σ15 =>
      f12_keepsTold_L144 n (v1 + 1) σ15
    else
      f12_keepsTold_J204 σ
def f12_keepsTold_J142 (σ : z_M) : Option (Unit × z_M) :=
  f12_keepsTold_L144 z_fu 0 σ
def f12_keepsTold_L98 : Nat → Int32 → z_M → Option (Unit × z_M)
  | 0, _, _ => none
  | n + 1, v1, σ =>
    if v1 < 8 then
      z_chk (z_in v1 8) <|
      z_bnd (f12_keeps (σ 4 (z_ix v1)) σ) fun r2 σ3 =>
      z_chk (z_in v1 8) <|
      z_let (z_set σ3 4 (z_ix v1) r2) fun σ5 =>
      z_chk (z_in v1 8) <|
      z_bnd (f12_keeps (σ5 5 (z_ix v1)) σ5) fun r7 σ8 =>
      z_chk (z_in v1 8) <|
      z_let (z_set σ8 5 (z_ix v1) r7) fun σ10 =>
      f12_keepsTold_L98 n (v1 + 1) σ10
    else
      f12_keepsTold_J142 σ
def f12_keepsTold (σ : z_M) : Option (Unit × z_M) :=
  z_bnd (f12_keeps (σ 0 6) σ) fun r1 σ2 =>
  z_let (z_set σ2 0 6 r1) fun σ3 =>
  z_bnd (f12_keeps (σ3 0 7) σ3) fun r4 σ5 =>
  z_let (z_set σ5 0 7 r4) fun σ6 =>
  z_bnd (f12_keeps (σ6 0 8) σ6) fun r7 σ8 =>
  z_let (z_set σ8 0 8 r7) fun σ9 =>
  z_bnd (f12_keeps (σ9 0 9) σ9) fun r10 σ11 =>
  z_let (z_set σ11 0 9 r10) fun σ12 =>
  z_bnd (f12_keeps (σ12 0 36) σ12) fun r13 σ14 =>
  z_let (z_set σ14 0 36 r13) fun σ15 =>
  z_bnd (f12_keeps (σ15 0 38) σ15) fun r16 σ17 =>
  z_let (z_set σ17 0 38 r16) fun σ18 =>
  z_bnd (f12_keeps (σ18 0 40) σ18) fun r19 σ20 =>
  z_let (z_set σ20 0 40 r19) fun σ21 =>
  z_bnd (f12_keeps (σ21 0 52) σ21) fun r22 σ23 =>
  z_let (z_set σ23 0 52 r22) fun σ24 =>
  f12_keepsTold_L98 z_fu 0 σ24
def f12_image_J98 (v1 : Int32) (σ : z_M) : Option (Int32 × z_M) :=
  z_bnd (f12_keepsLaw σ) fun _ σ2 =>
  if v1 = 0 then
    z_let (z_set σ2 0 3 0) fun σ3 =>
    some (1, σ3)
  else
    some (1, σ2)
def f12_image_L69 : Nat → Int32 → Int32 → z_M → Option (Int32 × z_M)
  | 0, _, _, _ => none
  | n + 1, v1, v2, σ =>
    if v2 < 600 then
      z_chk (z_in v2 600) <|
      z_bnd (f12_keeps (σ 6 (z_ix v2)) σ) fun r2 σ3 =>
      z_chk (z_in v2 600) <|
      z_let (z_set σ3 6 (z_ix v2) r2) fun σ5 =>
      f12_image_L69 n v1 (v2 + 1) σ5
    else
      f12_image_J98 v1 σ
def f12_image_J63 (v1 : Int32) (σ : z_M) : Option (Int32 × z_M) :=
  z_bnd (f12_keepsTold σ) fun _ σ2 =>
  f12_image_L69 z_fu v1 0 σ2
def f12_image_L35 : Nat → Int32 → Int32 → z_M → Option (Int32 × z_M)
  | 0, _, _, _ => none
  | n + 1, v1, v2, σ =>
    if v2 < 100 then
      z_chk (z_in v2 100) <|
      z_bnd (f12_keeps (σ 1 (z_ix v2)) σ) fun r2 σ3 =>
      z_chk (z_in v2 100) <|
      z_let (z_set σ3 1 (z_ix v2) r2) fun σ5 =>
      f12_image_L35 n v1 (v2 + 1) σ5
    else
      f12_image_J63 v1 σ
def f12_image_J18 (v1 : Int32) (σ : z_M) : Option (Int32 × z_M) :=
  z_chk (z_01 v1) <|
  z_let (z_set σ 0 57 v1) fun σ2 =>
  z_let (z_set σ2 0 58 1) fun σ3 =>
  z_let (z_set σ3 0 59 0) fun σ4 =>
  f12_image_L35 z_fu v1 0 σ4
def f12_image (p1 : Int32) (σ : z_M) : Option (Int32 × z_M) :=
  z_let (z_set σ 0 0 0) fun σ1 =>
  if p1 = 0 then
    if σ1 0 58 = 0 then
      some (0, σ1)
    else
      f12_image_J18 p1 σ1
  else
    f12_image_J18 p1 σ1
def f12_potMany_L4 : Nat → Int32 → Int32 → z_M → Option (Int32 × z_M)
  | 0, _, _, _ => none
  | n + 1, v1, v2, σ =>
    if v2 < σ 0 6 then
      z_bnd (f12_potOf v2 σ) fun r1 σ2 =>
      if r1 = (-1) then
        f12_potMany_L4 n v1 (v2 + 1) σ2
      else
        f12_potMany_L4 n (v1 + 1) (v2 + 1) σ2
    else
      some (v1, σ)
def f12_potMany (σ : z_M) : Option (Int32 × z_M) :=
  f12_potMany_L4 z_fu 0 0 σ
def f12_look (p1 : Int32) (σ : z_M) : Option (Int32 × z_M) :=
  z_let (z_set σ 0 0 0) fun σ1 =>
  if p1 = 0 then
    some (σ1 0 6, σ1)
  else
    if p1 = 1 then
      z_chk (z_in 0 100) <|
      some (σ1 1 (z_ix 0), σ1)
    else
      if p1 = 2 then
        z_chk (z_in 3 100) <|
        some (σ1 1 (z_ix 3), σ1)
      else
        if p1 = 3 then
          z_bnd (f12_potMany σ1) fun r10 σ11 =>
          some (r10, σ11)
        else
          if p1 = 4 then
            z_chk (z_in 2 100) <|
            some (σ1 1 (z_ix 2), σ1)
          else
            if p1 = 5 then
              z_chk (z_in 1 100) <|
              some (σ1 1 (z_ix 1), σ1)
            else
              if p1 = 6 then
                some (σ1 0 36, σ1)
              else
                if p1 = 7 then
                  z_chk (z_in 1 2) <|
                  some (σ1 9 (z_ix 1), σ1)
                else
                  if p1 = 8 then
                    some (σ1 0 38, σ1)
                  else
                    if p1 = 9 then
                      some (σ1 0 40, σ1)
                    else
                      if p1 = 10 then
                        some (σ1 0 52, σ1)
                      else
                        if p1 = 11 then
                          some (σ1 0 3, σ1)
                        else
                          if p1 = 12 then
                            z_bnd (f12_most σ1) fun r5 σ6 =>
                            some (r5, σ6)
                          else
                            if p1 = 13 then
                              some (σ1 0 8, σ1)
                            else
                              if p1 = 14 then
                                some (σ1 0 9, σ1)
                              else
                                z_bnd (f12_isIn p1 20 27 σ1) fun r2 σ3 =>
                                if r2 = 0 then
                                  some ((-1), σ3)
                                else
                                  z_chk (z_in (p1 - 20) 8) <|
                                  some (σ3 4 (z_ix (p1 - 20)), σ3)
