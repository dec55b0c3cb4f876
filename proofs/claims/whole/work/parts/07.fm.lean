section
def f_X7_adds (x : IS) (a1 : Int32) (a2 : Int32) (a3 : Int32) (a4 : Int32) : Option (IS) :=
  q_gd (q_in (x 8 0) 102) (
  q_let (q_up x 10 (upd (x 10) (x 8 0).toNatClampNeg a1)) fun x2 =>
  q_gd (q_in ((x2 8 0) + (1 : Int32)) 102) (
  q_let (q_up x2 10 (upd (x2 10) ((x2 8 0) + (1 : Int32)).toNatClampNeg a2)) fun x4 =>
  q_gd (q_in ((x4 8 0) + (2 : Int32)) 102) (
  q_let (q_up x4 10 (upd (x4 10) ((x4 8 0) + (2 : Int32)).toNatClampNeg a3)) fun x6 =>
  q_gd (q_in ((x6 8 0) + (3 : Int32)) 102) (
  q_let (q_up x6 10 (upd (x6 10) ((x6 8 0) + (3 : Int32)).toNatClampNeg a4)) fun x8 =>
  q_let (q_up x8 8 (fun _ => ((x8 8 0) + (4 : Int32)))) fun x9 =>
  some x9))))
def f_X7_isIn (a1 : Int32) (a2 : Int32) (a3 : Int32) : Option (Int32) :=
  if a1 < a2 then
    some (0 : Int32)
  else
    if a3 < a1 then
      some (0 : Int32)
    else
      some (1 : Int32)
def f_X7_clears_L7F (k : IS → Option (IS)) (go : Int32 → IS → Option (IS)) (v2 : Int32) (x3 : IS) : Option (IS) :=
  if (102 : Int32) ≤ v2 then
    k x3
  else
    q_gd (q_in v2 102) (
    q_let (q_up x3 10 (upd (x3 10) v2.toNatClampNeg (0 : Int32))) fun x7 =>
    q_let (v2 + 1) fun v8 =>
    go v8 x7)
def f_X7_clears_L7 (k : IS → Option (IS)) : Nat → Int32 → IS → Option (IS)
  | 0 => fun _ _ => none
  | n + 1 => f_X7_clears_L7F k (f_X7_clears_L7 k n)
def f_X7_clears (x : IS) : Option (IS) :=
  q_let (q_up x 8 (fun _ => (0 : Int32))) fun x1 =>
  f_X7_clears_L7 (fun x4 =>
      q_let (q_up x4 10 (upd (x4 10) (96 : Int32).toNatClampNeg (3 : Int32))) fun x9 =>
      q_let (q_up x9 10 (upd (x9 10) (97 : Int32).toNatClampNeg (1 : Int32))) fun x10 =>
      q_let (q_up x10 10 (upd (x10 10) (98 : Int32).toNatClampNeg (4 : Int32))) fun x11 =>
      q_let (q_up x11 10 (upd (x11 10) (99 : Int32).toNatClampNeg (2 : Int32))) fun x12 =>
      q_let (q_up x12 10 (upd (x12 10) (100 : Int32).toNatClampNeg (1 : Int32))) fun x13 =>
      q_let (q_up x13 9 (fun _ => (4 : Int32))) fun x14 =>
      q_let (q_up x14 11 (upd (x14 11) (0 : Int32).toNatClampNeg (4 : Int32))) fun x15 =>
      q_let (q_up x15 11 (upd (x15 11) (1 : Int32).toNatClampNeg (2 : Int32))) fun x16 =>
      q_let (q_up x16 11 (upd (x16 11) (2 : Int32).toNatClampNeg (1 : Int32))) fun x17 =>
      q_let (q_up x17 11 (upd (x17 11) (3 : Int32).toNatClampNeg (1 : Int32))) fun x18 =>
      some x18) 1000 (0 : Int32) x1
def f_X7_takes_L18F (k : IS → Option (IS)) (go : Int32 → IS → Option (IS)) (v3 : Int32) (x4 : IS) : Option (IS) :=
  if (8 : Int32) ≤ v3 then
    k x4
  else
    q_jn (fun (t9 : Int32) =>
      q_gd (q_in v3 8) (
      q_let (q_up x4 4 (upd (x4 4) v3.toNatClampNeg t9)) fun x11 =>
      q_let (v3 + 1) fun v12 =>
      go v12 x11)) fun J47 =>
    if (x4 3 0) ≤ v3 then
      J47 (0 : Int32)
    else
      q_gd (q_in v3 8) (
      J47 (x4 11 v3.toNatClampNeg))
def f_X7_takes_L18 (k : IS → Option (IS)) : Nat → Int32 → IS → Option (IS)
  | 0 => fun _ _ => none
  | n + 1 => f_X7_takes_L18F k (f_X7_takes_L18 k n)
def f_X7_takes_L56F (k : IS → Option (IS)) (go : Int32 → IS → Option (IS)) (v13 : Int32) (x14 : IS) : Option (IS) :=
  if (102 : Int32) ≤ v13 then
    k x14
  else
    q_gd (q_in v13 102) (
    q_gd (q_in v13 102) (
    q_let (q_up x14 5 (upd (x14 5) v13.toNatClampNeg (x14 10 v13.toNatClampNeg))) fun x19 =>
    q_let (v13 + 1) fun v20 =>
    go v20 x19))
def f_X7_takes_L56 (k : IS → Option (IS)) : Nat → Int32 → IS → Option (IS)
  | 0 => fun _ _ => none
  | n + 1 => f_X7_takes_L56F k (f_X7_takes_L56 k n)
def f_X7_takes (x : IS) : Option (IS) :=
  q_let (q_up x 2 (fun _ => (x 8 0))) fun x1 =>
  q_let (q_up x1 3 (fun _ => (x1 9 0))) fun x2 =>
  f_X7_takes_L18 (fun x5 =>
      f_X7_takes_L56 (fun x15 =>
          q_let (q_up x15 7 (fun _ => (0 : Int32))) fun x21 =>
          some x21) 1000 (0 : Int32) x5) 1000 (0 : Int32) x2
def f_X7_letterAt (x : IS) (a1 : Int32) : Option (Int32) :=
  if (x 0 0) ≤ a1 then
    some (0 : Int32)
  else
    q_gd (q_in a1 200) (
    some (x 1 a1.toNatClampNeg))
def f_X7_number_L7F (a1 : Int32) (k : Int32 → IS → Option (Int32 × IS)) (go : Int32 → IS → Option (Int32 × IS)) (v2 : Int32) (x4 : IS) : Option (Int32 × IS) :=
  if (a1 + (2 : Int32)) ≤ (x4 12 0) then
    k v2 x4
  else
    q_b1 (f_X7_letterAt x4 (x4 12 0)) fun r7 =>
    if r7 < (48 : Int32) then
      k v2 x4
    else
      q_b1 (f_X7_letterAt x4 (x4 12 0)) fun r11 =>
      if (57 : Int32) < r11 then
        k v2 x4
      else
        q_jn (fun (t16 : Int32) =>
          q_gd (q_in (x4 12 0) 200) (
          q_let (((((10 : Int32) * t16) + (x4 1 (x4 12 0).toNatClampNeg)) - (48 : Int32))) fun v18 =>
          q_let (q_up x4 12 (fun _ => ((x4 12 0) + (1 : Int32)))) fun x19 =>
          go v18 x19)) fun J54 =>
        if 0 ≤ v2 then
          J54 v2
        else
          J54 (0 : Int32)
def f_X7_number_L7 (a1 : Int32) (k : Int32 → IS → Option (Int32 × IS)) : Nat → Int32 → IS → Option (Int32 × IS)
  | 0 => fun _ _ => none
  | n + 1 => f_X7_number_L7F a1 k (f_X7_number_L7 a1 k n)
def f_X7_number (x : IS) (a1 : Int32) : Option (Int32 × IS) :=
  q_let (q_up x 12 (fun _ => a1)) fun x1 =>
  f_X7_number_L7 a1 (fun e3 x5 =>
      some (e3, x5)) 1000 (-1 : Int32) x1
def f_X7_isWord (x : IS) (a1 : Int32) (a2 : Int32) (a3 : Int32) (a4 : Int32) (a5 : Int32) : Option (Int32) :=
  q_b1 (f_X7_letterAt x a1) fun r1 =>
  if r1 = a2 then
    q_b1 (f_X7_letterAt x (a1 + (1 : Int32))) fun r5 =>
    if r5 = a3 then
      q_b1 (f_X7_letterAt x (a1 + (2 : Int32))) fun r9 =>
      if r9 = a4 then
        q_b1 (f_X7_letterAt x (a1 + (3 : Int32))) fun r13 =>
        if r13 = a5 then
          some (1 : Int32)
        else
          some (0 : Int32)
      else
        some (0 : Int32)
    else
      some (0 : Int32)
  else
    some (0 : Int32)
def f_X7_readsCells_L4F (k : IS → Option (Int32 × IS)) (go : Int32 → Int32 → IS → Option (Int32 × IS)) (v1 : Int32) (v2 : Int32) (x3 : IS) : Option (Int32 × IS) :=
  if v2 = 0 then
    k x3
  else
    q_b2 (f_X7_number x3 v1) fun r6 x7 =>
    if r6 < 0 then
      some ((0 : Int32), x7)
    else
      if (x7 8 0) = (48 : Int32) then
        some ((0 : Int32), x7)
      else
        q_gd (q_in (x7 8 0) 102) (
        q_let (q_up x7 10 (upd (x7 10) (x7 8 0).toNatClampNeg r6)) fun x13 =>
        q_let (q_up x13 8 (fun _ => ((x13 8 0) + (1 : Int32)))) fun x14 =>
        q_b1 (f_X7_letterAt x14 (x14 12 0)) fun r15 =>
        q_jn (fun (t19 : Int32) =>
          q_let (((x14 12 0) + (1 : Int32))) fun v20 =>
          go v20 t19 x14) fun J70 =>
        if r15 = (44 : Int32) then
          J70 (1 : Int32)
        else
          J70 (0 : Int32))
def f_X7_readsCells_L4 (k : IS → Option (Int32 × IS)) : Nat → Int32 → Int32 → IS → Option (Int32 × IS)
  | 0 => fun _ _ _ => none
  | n + 1 => f_X7_readsCells_L4F k (f_X7_readsCells_L4 k n)
def f_X7_readsCells (x : IS) (a1 : Int32) : Option (Int32 × IS) :=
  f_X7_readsCells_L4 (fun x4 =>
      some ((1 : Int32), x4)) 1000 a1 (1 : Int32) x
def f_X7_least (a1 : Int32) : Option (Int32) :=
  if a1 = (1 : Int32) then
    some (0 : Int32)
  else
    some (1 : Int32)
def f_X7_most (a1 : Int32) : Option (Int32) :=
  if a1 = 0 then
    some (6 : Int32)
  else
    if a1 = (1 : Int32) then
      some (3 : Int32)
    else
      if a1 = (2 : Int32) then
        some (12 : Int32)
      else
        some (40 : Int32)
def f_X7_readsLook_L4F (k : IS → Option (Int32 × IS)) (go : Int32 → Int32 → IS → Option (Int32 × IS)) (v1 : Int32) (v2 : Int32) (x3 : IS) : Option (Int32 × IS) :=
  if (5 : Int32) ≤ v2 then
    k x3
  else
    q_b2 (f_X7_number x3 v1) fun r6 x7 =>
    q_b1 (f_X7_least v2) fun r10 =>
    q_b1 (f_X7_most v2) fun r13 =>
    q_b1 (f_X7_isIn r6 r10 r13) fun r16 =>
    if r16 = 0 then
      some ((0 : Int32), x7)
    else
      q_jn (
        q_gd (q_in ((96 : Int32) + v2) 102) (
        q_let (q_up x7 10 (upd (x7 10) ((96 : Int32) + v2).toNatClampNeg r6)) fun x26 =>
        q_let (((x26 12 0) + (1 : Int32))) fun v27 =>
        q_let (v2 + 1) fun v28 =>
        go v27 v28 x26)) fun J52 =>
      if (4 : Int32) ≤ v2 then
        J52
      else
        q_b1 (f_X7_letterAt x7 (x7 12 0)) fun r21 =>
        if r21 = (44 : Int32) then
          J52
        else
          some ((0 : Int32), x7)
def f_X7_readsLook_L4 (k : IS → Option (Int32 × IS)) : Nat → Int32 → Int32 → IS → Option (Int32 × IS)
  | 0 => fun _ _ _ => none
  | n + 1 => f_X7_readsLook_L4F k (f_X7_readsLook_L4 k n)
def f_X7_readsLook (x : IS) (a1 : Int32) : Option (Int32 × IS) :=
  f_X7_readsLook_L4 (fun x4 =>
      some ((1 : Int32), x4)) 1000 a1 (0 : Int32) x
def f_X7_readsMode (x : IS) (a1 : Int32) : Option (Int32 × IS) :=
  q_b1 (f_X7_isWord x a1 (98 : Int32) (111 : Int32) (116 : Int32) (104 : Int32)) fun r1 =>
  q_b1 (f_X7_isWord x a1 (109 : Int32) (111 : Int32) (114 : Int32) (101 : Int32)) fun r4 =>
  q_b1 (f_X7_isWord x a1 (108 : Int32) (101 : Int32) (115 : Int32) (115 : Int32)) fun r7 =>
  q_jn (fun (t12 : Int32) =>
    q_let (q_up x 10 (upd (x 10) (101 : Int32).toNatClampNeg t12)) fun x13 =>
    q_let (q_up x13 12 (fun _ => (a1 + (4 : Int32)))) fun x14 =>
    if r1 = 0 then
      if r4 = 0 then
        if r7 = 0 then
          some ((0 : Int32), x14)
        else
          some ((1 : Int32), x14)
      else
        some ((1 : Int32), x14)
    else
      some ((1 : Int32), x14)) fun J66 =>
  if r1 = 0 then
    if r4 = 0 then
      J66 (2 : Int32)
    else
      J66 (1 : Int32)
  else
    J66 (0 : Int32)
def f_X7_readsNoise_L10F (k : Int32 → Int32 → IS → Option (Int32 × IS)) (go : Int32 → Int32 → Int32 → Int32 → IS → Option (Int32 × IS)) (v1 : Int32) (v2 : Int32) (v3 : Int32) (v4 : Int32) (x7 : IS) : Option (Int32 × IS) :=
  if v4 = 0 then
    k v2 v3 x7
  else
    q_b2 (f_X7_number x7 v1) fun r10 x11 =>
    q_b1 (f_X7_isIn r10 (0 : Int32) (16 : Int32)) fun r14 =>
    if r14 = 0 then
      some ((0 : Int32), x11)
    else
      if v3 = (8 : Int32) then
        some ((0 : Int32), x11)
      else
        q_gd (q_in v3 8) (
        q_let (q_up x11 11 (upd (x11 11) v3.toNatClampNeg r10)) fun x20 =>
        q_let ((v2 + r10)) fun v21 =>
        q_let (v3 + 1) fun v22 =>
        q_b1 (f_X7_letterAt x20 (x20 12 0)) fun r23 =>
        q_jn (fun (t27 : Int32) =>
          q_let (((x20 12 0) + (1 : Int32))) fun v28 =>
          go v28 v21 v22 t27 x20) fun J77 =>
        if r23 = (44 : Int32) then
          J77 (1 : Int32)
        else
          J77 (0 : Int32))
def f_X7_readsNoise_L10 (k : Int32 → Int32 → IS → Option (Int32 × IS)) : Nat → Int32 → Int32 → Int32 → Int32 → IS → Option (Int32 × IS)
  | 0 => fun _ _ _ _ _ => none
  | n + 1 => f_X7_readsNoise_L10F k (f_X7_readsNoise_L10 k n)
def f_X7_readsNoise (x : IS) (a1 : Int32) : Option (Int32 × IS) :=
  f_X7_readsNoise_L10 (fun e5 e6 x8 =>
      q_let (q_up x8 9 (fun _ => e6)) fun x29 =>
      if e6 ≤ (1 : Int32) then
        some ((0 : Int32), x29)
      else
        q_b1 (f_X7_isIn e5 (1 : Int32) (16 : Int32)) fun r31 =>
        if r31 = 0 then
          some ((0 : Int32), x29)
        else
          some ((1 : Int32), x29)) 1000 a1 (0 : Int32) (0 : Int32) (1 : Int32) x
def f_X7_readsItem (x : IS) (a1 : Int32) : Option (Int32 × IS) :=
  q_b1 (f_X7_letterAt x (a1 + (4 : Int32))) fun r1 =>
  if r1 = (32 : Int32) then
    q_b1 (f_X7_isWord x a1 (99 : Int32) (101 : Int32) (108 : Int32) (108 : Int32)) fun r5 =>
    if r5 = 0 then
      q_b1 (f_X7_isWord x a1 (108 : Int32) (111 : Int32) (111 : Int32) (107 : Int32)) fun r9 =>
      if r9 = 0 then
        q_b1 (f_X7_isWord x a1 (109 : Int32) (111 : Int32) (100 : Int32) (101 : Int32)) fun r13 =>
        if r13 = 0 then
          q_b1 (f_X7_isWord x a1 (100 : Int32) (105 : Int32) (99 : Int32) (101 : Int32)) fun r17 =>
          if r17 = 0 then
            some ((0 : Int32), x)
          else
            q_b2 (f_X7_readsNoise x (a1 + (5 : Int32))) fun r21 x22 =>
            if r21 = 0 then
              some ((0 : Int32), x22)
            else
              some ((1 : Int32), x22)
        else
          q_b2 (f_X7_readsMode x (a1 + (5 : Int32))) fun r26 x27 =>
          some (r26, x27)
      else
        q_b2 (f_X7_readsLook x (a1 + (5 : Int32))) fun r30 x31 =>
        some (r30, x31)
    else
      q_b2 (f_X7_readsCells x (a1 + (5 : Int32))) fun r34 x35 =>
      some (r34, x35)
  else
    some ((0 : Int32), x)
def f_X7_reads_L6F (k : IS → Option (Int32 × IS)) (go : Int32 → IS → Option (Int32 × IS)) (v3 : Int32) (x4 : IS) : Option (Int32 × IS) :=
  if (x4 0 0) ≤ v3 then
    k x4
  else
    q_b2 (f_X7_readsItem x4 v3) fun r7 x8 =>
    if r7 = 0 then
      some (v3, x8)
    else
      q_b1 (f_X7_letterAt x8 (x8 12 0)) fun r12 =>
      if r12 = (59 : Int32) then
        q_let (((x8 12 0) + (1 : Int32))) fun v16 =>
        go v16 x8
      else
        some (v3, x8)
def f_X7_reads_L6 (k : IS → Option (Int32 × IS)) : Nat → Int32 → IS → Option (Int32 × IS)
  | 0 => fun _ _ => none
  | n + 1 => f_X7_reads_L6F k (f_X7_reads_L6 k n)
def f_X7_reads (x : IS) : Option (Int32 × IS) :=
  q_b1 (f_X7_clears x) fun x1 =>
  f_X7_reads_L6 (fun x5 =>
      some ((-4 : Int32), x5)) 1000 (0 : Int32) x1
def f_X7_write (x : IS) (a1 : Int32) : Option (Int32 × IS) :=
  if a1 < (32 : Int32) then
    some ((-1 : Int32), x)
  else
    if a1 ≤ (126 : Int32) then
      if (x 0 0) = (200 : Int32) then
        some ((-3 : Int32), x)
      else
        q_gd (q_in (x 0 0) 200) (
        q_let (q_up x 1 (upd (x 1) (x 0 0).toNatClampNeg a1)) fun x5 =>
        q_let (q_up x5 0 (fun _ => ((x5 0 0) + (1 : Int32)))) fun x6 =>
        some ((x6 0 0), x6))
    else
      some ((-1 : Int32), x)
def f_X7_wipe (x : IS) : Option (Int32 × IS) :=
  q_let ((x 0 0)) fun v1 =>
  q_let (q_up x 0 (fun _ => (0 : Int32))) fun x2 =>
  some (v1, x2)
def f_X7_fault (x : IS) : Option (Int32 × IS) :=
  q_b2 (f_X7_reads x) fun r1 x2 =>
  some (r1, x2)
def f_X7_lay (x : IS) : Option (Int32 × IS) :=
  q_b2 (f_X7_reads x) fun r1 x2 =>
  if r1 = (-4 : Int32) then
    if (x2 8 0) = 0 then
      some ((-2 : Int32), x2)
    else
      q_b1 (f_X7_takes x2) fun x7 =>
      some ((x7 2 0), x7)
  else
    some ((-2 : Int32), x2)
def f_X7_keeps_L11F (k : IS → Option (IS)) (go : Int32 → IS → Option (IS)) (v2 : Int32) (x3 : IS) : Option (IS) :=
  if (510 : Int32) ≤ v2 then
    k x3
  else
    q_gd (q_in (v2 + (102 : Int32)) 612) (
    q_gd (q_in v2 612) (
    q_let (q_up x3 6 (upd (x3 6) v2.toNatClampNeg (x3 6 (v2 + (102 : Int32)).toNatClampNeg))) fun x8 =>
    q_let (v2 + 1) fun v9 =>
    go v9 x8))
def f_X7_keeps_L11 (k : IS → Option (IS)) : Nat → Int32 → IS → Option (IS)
  | 0 => fun _ _ => none
  | n + 1 => f_X7_keeps_L11F k (f_X7_keeps_L11 k n)
def f_X7_keeps_L51F (k : IS → Option (IS)) (go : Int32 → IS → Option (IS)) (v12 : Int32) (x13 : IS) : Option (IS) :=
  if (102 : Int32) ≤ v12 then
    k x13
  else
    q_gd (q_in v12 102) (
    q_gd (q_in (((102 : Int32) * (x13 7 0)) + v12) 612) (
    q_let (q_up x13 6 (upd (x13 6) (((102 : Int32) * (x13 7 0)) + v12).toNatClampNeg (x13 5 v12.toNatClampNeg))) fun x18 =>
    q_let (v12 + 1) fun v19 =>
    go v19 x18))
def f_X7_keeps_L51 (k : IS → Option (IS)) : Nat → Int32 → IS → Option (IS)
  | 0 => fun _ _ => none
  | n + 1 => f_X7_keeps_L51F k (f_X7_keeps_L51 k n)
def f_X7_keeps (x : IS) : Option (IS) :=
  q_jn (fun (x11 : IS) =>
    f_X7_keeps_L51 (fun x14 =>
        q_let (q_up x14 7 (fun _ => ((x14 7 0) + (1 : Int32)))) fun x20 =>
        some x20) 1000 (0 : Int32) x11) fun J49 =>
  if (x 7 0) = (6 : Int32) then
    f_X7_keeps_L11 (fun x4 =>
        q_let (q_up x4 7 (fun _ => ((x4 7 0) - (1 : Int32)))) fun x10 =>
        J49 x10) 1000 (0 : Int32) x
  else
    J49 x
def f_X7_becomes (x : IS) (a1 : Int32) (a2 : Int32) : Option (Int32 × IS) :=
  q_gd (q_in a1 102) (
  q_let ((x 5 a1.toNatClampNeg)) fun v2 =>
  if v2 = a2 then
    some ((-2 : Int32), x)
  else
    q_b1 (f_X7_keeps x) fun x4 =>
    q_gd (q_in a1 102) (
    q_let (q_up x4 5 (upd (x4 5) a1.toNatClampNeg a2)) fun x7 =>
    some (v2, x7)))
def f_X7_isCell (x : IS) (a1 : Int32) : Option (Int32) :=
  q_b1 (f_X7_isIn a1 (0 : Int32) ((x 2 0) - (1 : Int32))) fun r1 =>
  some r1
def f_X7_power (x : IS) (a1 : Int32) (a2 : Int32) : Option (Int32 × IS) :=
  q_b1 (f_X7_isCell x a1) fun r1 =>
  if r1 = 0 then
    some ((-1 : Int32), x)
  else
    q_b1 (f_X7_isIn a2 (0 : Int32) (99 : Int32)) fun r5 =>
    if r5 = 0 then
      some ((-1 : Int32), x)
    else
      q_b2 (f_X7_becomes x a1 a2) fun r9 x10 =>
      some (r9, x10)
def f_X7_leftOut_L4F (x : IS) (k : Int32 → Option (Int32)) (go : Int32 → Int32 → Option (Int32)) (v1 : Int32) (v2 : Int32) : Option (Int32) :=
  if (x 2 0) ≤ v2 then
    k v1
  else
    q_gd (q_in ((48 : Int32) + v2) 102) (
    q_let ((v1 + (x 5 ((48 : Int32) + v2).toNatClampNeg))) fun v6 =>
    q_let (v2 + 1) fun v7 =>
    go v6 v7)
def f_X7_leftOut_L4 (x : IS) (k : Int32 → Option (Int32)) : Nat → Int32 → Int32 → Option (Int32)
  | 0 => fun _ _ => none
  | n + 1 => f_X7_leftOut_L4F x k (f_X7_leftOut_L4 x k n)
def f_X7_leftOut (x : IS) : Option (Int32) :=
  f_X7_leftOut_L4 x (fun e3 =>
      some e3) 1000 (0 : Int32) (0 : Int32)
def f_X7_leave (x : IS) (a1 : Int32) (a2 : Int32) : Option (Int32 × IS) :=
  q_b1 (f_X7_isCell x a1) fun r1 =>
  if r1 = 0 then
    some ((-1 : Int32), x)
  else
    q_b1 (f_X7_isIn a2 (0 : Int32) (1 : Int32)) fun r5 =>
    if r5 = 0 then
      some ((-1 : Int32), x)
    else
      q_b2 (f_X7_becomes x ((48 : Int32) + a1) a2) fun r9 x10 =>
      if r9 = (-2 : Int32) then
        some ((-2 : Int32), x10)
      else
        q_b1 (f_X7_leftOut x10) fun r14 =>
        some (r14, x10)
def f_X7_look (x : IS) (a1 : Int32) (a2 : Int32) : Option (Int32 × IS) :=
  q_b1 (f_X7_isIn a1 (0 : Int32) (4 : Int32)) fun r1 =>
  if r1 = 0 then
    some ((-1 : Int32), x)
  else
    q_b1 (f_X7_least a1) fun r5 =>
    q_b1 (f_X7_most a1) fun r8 =>
    q_b1 (f_X7_isIn a2 r5 r8) fun r11 =>
    if r11 = 0 then
      some ((-1 : Int32), x)
    else
      q_b2 (f_X7_becomes x ((96 : Int32) + a1) a2) fun r15 x16 =>
      some (r15, x16)
def f_X7_mode (x : IS) (a1 : Int32) : Option (Int32 × IS) :=
  q_b1 (f_X7_isIn a1 (0 : Int32) (2 : Int32)) fun r1 =>
  if r1 = 0 then
    some ((-1 : Int32), x)
  else
    q_b2 (f_X7_becomes x (101 : Int32) a1) fun r5 x6 =>
    some (r5, x6)
def f_X7_slide_L25F (a1 : Int32) (v5 : Int32) (k : IS → Option (Int32 × IS)) (go : Int32 → IS → Option (Int32 × IS)) (v8 : Int32) (x9 : IS) : Option (Int32 × IS) :=
  if (x9 2 0) ≤ v8 then
    k x9
  else
    q_gd (q_in v8 102) (
    q_gd (q_in (v8 - (1 : Int32)) 102) (
    q_let (q_up x9 5 (upd (x9 5) (v8 - (1 : Int32)).toNatClampNeg (x9 5 v8.toNatClampNeg))) fun x14 =>
    q_gd (q_in ((48 : Int32) + v8) 102) (
    q_gd (q_in ((47 : Int32) + v8) 102) (
    q_let (q_up x14 5 (upd (x14 5) ((47 : Int32) + v8).toNatClampNeg (x14 5 ((48 : Int32) + v8).toNatClampNeg))) fun x17 =>
    q_let (v8 + 1) fun v18 =>
    go v18 x17))))
def f_X7_slide_L25 (a1 : Int32) (v5 : Int32) (k : IS → Option (Int32 × IS)) : Nat → Int32 → IS → Option (Int32 × IS)
  | 0 => fun _ _ => none
  | n + 1 => f_X7_slide_L25F a1 v5 k (f_X7_slide_L25 a1 v5 k n)
def f_X7_slide (x : IS) (a1 : Int32) : Option (Int32 × IS) :=
  q_b1 (f_X7_isIn a1 (0 : Int32) (99 : Int32)) fun r1 =>
  if r1 = 0 then
    some ((-1 : Int32), x)
  else
    q_let ((x 5 (0 : Int32).toNatClampNeg)) fun v5 =>
    q_b1 (f_X7_keeps x) fun x6 =>
    f_X7_slide_L25 a1 v5 (fun x10 =>
        q_gd (q_in ((x10 2 0) - (1 : Int32)) 102) (
        q_let (q_up x10 5 (upd (x10 5) ((x10 2 0) - (1 : Int32)).toNatClampNeg a1)) fun x20 =>
        q_gd (q_in ((47 : Int32) + (x20 2 0)) 102) (
        q_let (q_up x20 5 (upd (x20 5) ((47 : Int32) + (x20 2 0)).toNatClampNeg (0 : Int32))) fun x22 =>
        some (v5, x22)))) 1000 (1 : Int32) x6
def f_X7_undo_L22F (k : IS → Option (Int32 × IS)) (go : Int32 → IS → Option (Int32 × IS)) (v3 : Int32) (x4 : IS) : Option (Int32 × IS) :=
  if (102 : Int32) ≤ v3 then
    k x4
  else
    q_gd (q_in (((102 : Int32) * (x4 7 0)) + v3) 612) (
    q_gd (q_in v3 102) (
    q_let (q_up x4 5 (upd (x4 5) v3.toNatClampNeg (x4 6 (((102 : Int32) * (x4 7 0)) + v3).toNatClampNeg))) fun x9 =>
    q_let (v3 + 1) fun v10 =>
    go v10 x9))
def f_X7_undo_L22 (k : IS → Option (Int32 × IS)) : Nat → Int32 → IS → Option (Int32 × IS)
  | 0 => fun _ _ => none
  | n + 1 => f_X7_undo_L22F k (f_X7_undo_L22 k n)
def f_X7_undo (x : IS) : Option (Int32 × IS) :=
  if (x 7 0) = 0 then
    some ((-2 : Int32), x)
  else
    q_let (q_up x 7 (fun _ => ((x 7 0) - (1 : Int32)))) fun x2 =>
    f_X7_undo_L22 (fun x5 =>
        some ((x5 7 0), x5)) 1000 (0 : Int32) x2
def f_X7_meets_L41F (a2 : Int32) (v3 : Int32) (k : Int32 → IS → Option (IS)) (go : Int32 → IS → Option (IS)) (v11 : Int32) (x13 : IS) : Option (IS) :=
  if v11 ≤ 0 then
    k v11 x13
  else
    q_gd (q_in (v11 - (1 : Int32)) 12) (
    q_gd (q_in v3 102) (
    if (x13 13 (v11 - (1 : Int32)).toNatClampNeg) ≤ (x13 5 v3.toNatClampNeg) then
      k v11 x13
    else
      q_gd (q_in (v11 - (1 : Int32)) 12) (
      q_gd (q_in v11 12) (
      q_let (q_up x13 13 (upd (x13 13) v11.toNatClampNeg (x13 13 (v11 - (1 : Int32)).toNatClampNeg))) fun x21 =>
      q_let (v11 + (-1)) fun v22 =>
      go v22 x21))))
def f_X7_meets_L41 (a2 : Int32) (v3 : Int32) (k : Int32 → IS → Option (IS)) : Nat → Int32 → IS → Option (IS)
  | 0 => fun _ _ => none
  | n + 1 => f_X7_meets_L41F a2 v3 k (f_X7_meets_L41 a2 v3 k n)
def f_X7_meets_L10F (a2 : Int32) (k : IS → Option (IS)) (go : Int32 → IS → Option (IS)) (v3 : Int32) (x4 : IS) : Option (IS) :=
  if a2 < v3 then
    k x4
  else
    if (x4 2 0) ≤ v3 then
      k x4
    else
      q_gd (q_in ((48 : Int32) + v3) 102) (
      q_jn (fun (x27 : IS) =>
        q_let (v3 + 1) fun v28 =>
        go v28 x27) fun J109 =>
      if (x4 5 ((48 : Int32) + v3).toNatClampNeg) = 0 then
        q_let ((x4 14 0)) fun v10 =>
        f_X7_meets_L41 a2 v3 (fun e12 x14 =>
            q_gd (q_in v3 102) (
            q_gd (q_in e12 12) (
            q_let (q_up x14 13 (upd (x14 13) e12.toNatClampNeg (x14 5 v3.toNatClampNeg))) fun x25 =>
            q_let (q_up x25 14 (fun _ => ((x25 14 0) + (1 : Int32)))) fun x26 =>
            J109 x26))) 1000 v10 x4
      else
        J109 x4)
def f_X7_meets_L10 (a2 : Int32) (k : IS → Option (IS)) : Nat → Int32 → IS → Option (IS)
  | 0 => fun _ _ => none
  | n + 1 => f_X7_meets_L10F a2 k (f_X7_meets_L10 a2 k n)
def f_X7_meets (x : IS) (a1 : Int32) (a2 : Int32) : Option (IS) :=
  q_jn (fun (t2 : Int32) =>
    f_X7_meets_L10 a2 (fun x5 =>
        some x5) 1000 t2 x) fun J9 =>
  if 0 ≤ a1 then
    J9 a1
  else
    J9 (0 : Int32)
def f_X7_rank (x : IS) (a1 : Int32) (a2 : Int32) : Option (Int32 × IS) :=
  q_let ((x 5 (96 : Int32).toNatClampNeg)) fun v1 =>
  q_let ((x 5 (97 : Int32).toNatClampNeg)) fun v2 =>
  q_let (q_up x 14 (fun _ => (0 : Int32))) fun x3 =>
  q_jn (fun (x7 : IS) =>
    if a2 = 0 then
      some ((x7 14 0), x7)
    else
      q_b1 (f_X7_meets x7 ((a1 + v2) + (1 : Int32)) ((a1 + v2) + v1)) fun x9 =>
      some ((x9 14 0), x9)) fun J43 =>
  if a2 = (1 : Int32) then
    J43 x3
  else
    q_b1 (f_X7_meets x3 ((a1 - v2) - v1) ((a1 - v2) - (1 : Int32))) fun x5 =>
    J43 x5
def f_X7_byRank (x : IS) (a1 : Int32) (a2 : Int32) : Option (Int32 × IS) :=
  q_b2 (f_X7_rank x a1 a2) fun r1 x2 =>
  if r1 = 0 then
    some ((-4 : Int32), x2)
  else
    q_jn (fun (t7 : Int32) =>
      q_gd (q_in t7 12) (
      some ((x2 13 t7.toNatClampNeg), x2))) fun J46 =>
    if (x2 5 (98 : Int32).toNatClampNeg) ≤ r1 then
      J46 ((x2 5 (98 : Int32).toNatClampNeg) - (1 : Int32))
    else
      J46 (r1 - (1 : Int32))
def f_X7_floorOf (x : IS) (a1 : Int32) : Option (Int32 × IS) :=
  if (x 5 (101 : Int32).toNatClampNeg) = 0 then
    q_b2 (f_X7_byRank x a1 (2 : Int32)) fun r18 x19 =>
    some (r18, x19)
  else
    q_b2 (f_X7_byRank x a1 (0 : Int32)) fun r2 x3 =>
    q_b2 (f_X7_byRank x3 a1 (1 : Int32)) fun r6 x7 =>
    q_jn (
      if 0 ≤ r2 then
        some (r2, x7)
      else
        some (r6, x7)) fun J39 =>
    if r2 < 0 then
      J39
    else
      if 0 ≤ r6 then
        q_jn (fun (t13 : Int32) =>
          q_jn (fun (t15 : Int32) =>
            if t13 = t15 then
              some (r2, x7)
            else
              some (r6, x7)) fun J75 =>
          if (x7 5 (101 : Int32).toNatClampNeg) = (1 : Int32) then
            J75 (1 : Int32)
          else
            J75 (0 : Int32)) fun J59 =>
        if r2 ≤ r6 then
          J59 (0 : Int32)
        else
          J59 (1 : Int32)
      else
        J39
def f_X7_isAlarm (x : IS) (a1 : Int32) : Option (Int32 × IS) :=
  q_b2 (f_X7_floorOf x a1) fun r1 x2 =>
  q_gd (q_in ((48 : Int32) + a1) 102) (
  if (x2 5 ((48 : Int32) + a1).toNatClampNeg) = 0 then
    if r1 < 0 then
      some ((0 : Int32), x2)
    else
      q_gd (q_in a1 102) (
      if ((x2 5 (100 : Int32).toNatClampNeg) * (x2 5 a1.toNatClampNeg)) ≤ ((x2 5 (99 : Int32).toNatClampNeg) * r1) then
        some ((0 : Int32), x2)
      else
        some ((1 : Int32), x2))
  else
    some ((0 : Int32), x2))
def f_X7_alarms_L4F (k : Int32 → IS → Option (Int32 × IS)) (go : Int32 → Int32 → IS → Option (Int32 × IS)) (v1 : Int32) (v2 : Int32) (x4 : IS) : Option (Int32 × IS) :=
  if (x4 2 0) ≤ v2 then
    k v1 x4
  else
    q_b2 (f_X7_isAlarm x4 v2) fun r7 x8 =>
    q_jn (fun (t12 : Int32) =>
      q_let ((v1 + t12)) fun v13 =>
      q_let (v2 + 1) fun v14 =>
      go v13 v14 x8) fun J26 =>
    if r7 = 0 then
      J26 (0 : Int32)
    else
      J26 (1 : Int32)
def f_X7_alarms_L4 (k : Int32 → IS → Option (Int32 × IS)) : Nat → Int32 → Int32 → IS → Option (Int32 × IS)
  | 0 => fun _ _ _ => none
  | n + 1 => f_X7_alarms_L4F k (f_X7_alarms_L4 k n)
def f_X7_alarms (x : IS) : Option (Int32 × IS) :=
  f_X7_alarms_L4 (fun e3 x5 =>
      some (e3, x5)) 1000 (0 : Int32) (0 : Int32) x
def f_X7_bunchesTo_L4F (a1 : Int32) (k : Int32 → IS → Option (Int32 × IS)) (go : Int32 → Int32 → IS → Option (Int32 × IS)) (v1 : Int32) (v2 : Int32) (x4 : IS) : Option (Int32 × IS) :=
  if a1 < v2 then
    k v1 x4
  else
    q_b2 (f_X7_isAlarm x4 (v2 - (1 : Int32))) fun r7 x8 =>
    q_jn (fun (t18 : Int32) (x19 : IS) =>
      q_let ((v1 + t18)) fun v20 =>
      q_let (v2 + 1) fun v21 =>
      go v20 v21 x19) fun J33 =>
    q_jn (fun (x17 : IS) =>
      J33 (0 : Int32) x17) fun J32 =>
    if r7 = 0 then
      J32 x8
    else
      q_b2 (f_X7_isAlarm x8 v2) fun r12 x13 =>
      if r12 = 0 then
        J33 (1 : Int32) x13
      else
        J32 x13
def f_X7_bunchesTo_L4 (a1 : Int32) (k : Int32 → IS → Option (Int32 × IS)) : Nat → Int32 → Int32 → IS → Option (Int32 × IS)
  | 0 => fun _ _ _ => none
  | n + 1 => f_X7_bunchesTo_L4F a1 k (f_X7_bunchesTo_L4 a1 k n)
def f_X7_bunchesTo (x : IS) (a1 : Int32) : Option (Int32 × IS) :=
  f_X7_bunchesTo_L4 a1 (fun e3 x5 =>
      some (e3, x5)) 1000 (0 : Int32) (1 : Int32) x
def f_X7_cell (x : IS) (a1 : Int32) (a2 : Int32) : Option (Int32 × IS) :=
  q_b1 (f_X7_isCell x a1) fun r1 =>
  if r1 = 0 then
    some ((-1 : Int32), x)
  else
    q_jn (
      q_b2 (f_X7_rank x a1 (a2 - (2 : Int32))) fun r32 x33 =>
      some (r32, x33)) fun J69 =>
    if a2 = 0 then
      q_gd (q_in a1 102) (
      some ((x 5 a1.toNatClampNeg), x))
    else
    if a2 = 1 then
      q_gd (q_in ((48 : Int32) + a1) 102) (
      some ((x 5 ((48 : Int32) + a1).toNatClampNeg), x))
    else
    if a2 = 2 then
      J69
    else
    if a2 = 3 then
      J69
    else
    if a2 = 4 then
      q_b2 (f_X7_floorOf x a1) fun r26 x27 =>
      some (r26, x27)
    else
    if a2 = 5 then
      q_b2 (f_X7_isAlarm x a1) fun r21 x22 =>
      if r21 = 0 then
        some ((0 : Int32), x22)
      else
        some ((1 : Int32), x22)
    else
    if a2 = 6 then
      q_b2 (f_X7_isAlarm x a1) fun r12 x13 =>
      if r12 = 0 then
        some ((-4 : Int32), x13)
      else
        q_b2 (f_X7_bunchesTo x13 a1) fun r17 x18 =>
        some (r17, x18)
    else
    some ((-1 : Int32), x)
def f_X7_ranked (x : IS) (a1 : Int32) (a2 : Int32) (a3 : Int32) : Option (Int32 × IS) :=
  q_b1 (f_X7_isCell x a1) fun r1 =>
  if r1 = 0 then
    some ((-1 : Int32), x)
  else
    q_b1 (f_X7_isIn a2 (0 : Int32) (2 : Int32)) fun r5 =>
    if r5 = 0 then
      some ((-1 : Int32), x)
    else
      if (1 : Int32) ≤ a3 then
        q_b2 (f_X7_rank x a1 a2) fun r10 x11 =>
        if r10 < a3 then
          some ((-4 : Int32), x11)
        else
          q_gd (q_in (a3 - (1 : Int32)) 12) (
          some ((x11 13 (a3 - (1 : Int32)).toNatClampNeg), x11))
      else
        some ((-1 : Int32), x)
def f_X7_hides1 (x : IS) (a1 : Int32) (a2 : Int32) : Option (Int32 × IS) :=
  if a1 = a2 then
    some ((0 : Int32), x)
  else
    q_gd (q_in ((48 : Int32) + a2) 102) (
    if (x 5 ((48 : Int32) + a2).toNatClampNeg) = (1 : Int32) then
      some ((0 : Int32), x)
    else
      q_b2 (f_X7_isAlarm x a2) fun r4 x5 =>
      if r4 = 0 then
        q_gd (q_in ((48 : Int32) + a1) 102) (
        q_let (q_up x5 5 (upd (x5 5) ((48 : Int32) + a1).toNatClampNeg (1 : Int32))) fun x10 =>
        q_b2 (f_X7_isAlarm x10 a2) fun r11 x12 =>
        q_gd (q_in ((48 : Int32) + a1) 102) (
        q_let (q_up x12 5 (upd (x12 5) ((48 : Int32) + a1).toNatClampNeg (0 : Int32))) fun x16 =>
        some (r11, x16)))
      else
        some ((0 : Int32), x5))
def f_X7_hides_L75F (a1 : Int32) (a2 : Int32) (k : Int32 → IS → Option (Int32 × IS)) (go : Int32 → Int32 → IS → Option (Int32 × IS)) (v17 : Int32) (v18 : Int32) (x20 : IS) : Option (Int32 × IS) :=
  q_jn (fun (t23 : Int32) =>
    if t23 ≤ v18 then
      k v17 x20
    else
      q_b2 (f_X7_hides1 x20 a1 v18) fun r25 x26 =>
      q_jn (fun (t30 : Int32) =>
        q_let ((v17 + t30)) fun v31 =>
        q_let (v18 + 1) fun v32 =>
        go v31 v32 x26) fun J110 =>
      if r25 = 0 then
        J110 (0 : Int32)
      else
        J110 (1 : Int32)) fun J91 =>
  if 0 ≤ a2 then
    J91 (a2 + (1 : Int32))
  else
    J91 (x20 2 0)
def f_X7_hides_L75 (a1 : Int32) (a2 : Int32) (k : Int32 → IS → Option (Int32 × IS)) : Nat → Int32 → Int32 → IS → Option (Int32 × IS)
  | 0 => fun _ _ _ => none
  | n + 1 => f_X7_hides_L75F a1 a2 k (f_X7_hides_L75 a1 a2 k n)
def f_X7_hides (x : IS) (a1 : Int32) (a2 : Int32) : Option (Int32 × IS) :=
  q_b1 (f_X7_isCell x a1) fun r1 =>
  if r1 = 0 then
    some ((-1 : Int32), x)
  else
    q_b1 (f_X7_isIn a2 (-1 : Int32) ((x 2 0) - (1 : Int32))) fun r5 =>
    if r5 = 0 then
      some ((-1 : Int32), x)
    else
      if a1 = a2 then
        some ((-1 : Int32), x)
      else
        q_gd (q_in ((48 : Int32) + a1) 102) (
        if (x 5 ((48 : Int32) + a1).toNatClampNeg) = (1 : Int32) then
          some ((-2 : Int32), x)
        else
          q_jn (
            q_jn (fun (t16 : Int32) =>
              f_X7_hides_L75 a1 a2 (fun e19 x21 =>
                  some (e19, x21)) 1000 (0 : Int32) t16 x) fun J73 =>
            if 0 ≤ a2 then
              J73 a2
            else
              J73 (0 : Int32)) fun J62 =>
          if a2 < 0 then
            J62
          else
            q_gd (q_in ((48 : Int32) + a2) 102) (
            if (x 5 ((48 : Int32) + a2).toNatClampNeg) = (1 : Int32) then
              some ((-2 : Int32), x)
            else
              J62))
def f_X7_bunches_L4F (k : Int32 → IS → Option (Int32 × IS)) (go : Int32 → Int32 → IS → Option (Int32 × IS)) (v1 : Int32) (v2 : Int32) (x4 : IS) : Option (Int32 × IS) :=
  if (x4 2 0) ≤ v2 then
    k v1 x4
  else
    q_b2 (f_X7_isAlarm x4 v2) fun r7 x8 =>
    q_jn (fun (t20 : Int32) (x21 : IS) =>
      q_let ((v1 + t20)) fun v22 =>
      q_let (v2 + 1) fun v23 =>
      go v22 v23 x21) fun J40 =>
    q_jn (fun (x19 : IS) =>
      J40 (0 : Int32) x19) fun J39 =>
    if r7 = 0 then
      J39 x8
    else
      q_jn (fun (x18 : IS) =>
        J40 (1 : Int32) x18) fun J35 =>
      if v2 = 0 then
        J35 x8
      else
        q_b2 (f_X7_isAlarm x8 (v2 - (1 : Int32))) fun r13 x14 =>
        if r13 = 0 then
          J35 x14
        else
          J39 x14
def f_X7_bunches_L4 (k : Int32 → IS → Option (Int32 × IS)) : Nat → Int32 → Int32 → IS → Option (Int32 × IS)
  | 0 => fun _ _ _ => none
  | n + 1 => f_X7_bunches_L4F k (f_X7_bunches_L4 k n)
def f_X7_bunches (x : IS) : Option (Int32 × IS) :=
  f_X7_bunches_L4 (fun e3 x5 =>
      some (e3, x5)) 1000 (0 : Int32) (0 : Int32) x
def f_X7_firstOf_L4F (a1 : Int32) (k : Int32 → IS → Option (Int32 × IS)) (go : Int32 → Int32 → IS → Option (Int32 × IS)) (v1 : Int32) (v2 : Int32) (x4 : IS) : Option (Int32 × IS) :=
  if a1 ≤ v1 then
    k v2 x4
  else
    q_let (v2 + 1) fun v7 =>
    q_b2 (f_X7_isAlarm x4 v7) fun r8 x9 =>
    q_jn (fun (t21 : Int32) (x22 : IS) =>
      q_let ((v1 + t21)) fun v23 =>
      go v23 v7 x22) fun J40 =>
    q_jn (fun (x20 : IS) =>
      J40 (0 : Int32) x20) fun J39 =>
    if r8 = 0 then
      J39 x9
    else
      q_jn (fun (x19 : IS) =>
        J40 (1 : Int32) x19) fun J35 =>
      if v7 = 0 then
        J35 x9
      else
        q_b2 (f_X7_isAlarm x9 (v7 - (1 : Int32))) fun r14 x15 =>
        if r14 = 0 then
          J35 x15
        else
          J39 x15
def f_X7_firstOf_L4 (a1 : Int32) (k : Int32 → IS → Option (Int32 × IS)) : Nat → Int32 → Int32 → IS → Option (Int32 × IS)
  | 0 => fun _ _ _ => none
  | n + 1 => f_X7_firstOf_L4F a1 k (f_X7_firstOf_L4 a1 k n)
def f_X7_firstOf (x : IS) (a1 : Int32) : Option (Int32 × IS) :=
  f_X7_firstOf_L4 a1 (fun e3 x5 =>
      some (e3, x5)) 1000 (-1 : Int32) (-1 : Int32) x
def f_X7_lastFrom_L2F (k : Int32 → IS → Option (Int32 × IS)) (go : Int32 → IS → Option (Int32 × IS)) (v1 : Int32) (x3 : IS) : Option (Int32 × IS) :=
  if (x3 2 0) ≤ (v1 + (1 : Int32)) then
    k v1 x3
  else
    q_b2 (f_X7_isAlarm x3 (v1 + (1 : Int32))) fun r6 x7 =>
    if r6 = 0 then
      k v1 x7
    else
      q_let (v1 + 1) fun v11 =>
      go v11 x7
def f_X7_lastFrom_L2 (k : Int32 → IS → Option (Int32 × IS)) : Nat → Int32 → IS → Option (Int32 × IS)
  | 0 => fun _ _ => none
  | n + 1 => f_X7_lastFrom_L2F k (f_X7_lastFrom_L2 k n)
def f_X7_lastFrom (x : IS) (a1 : Int32) : Option (Int32 × IS) :=
  f_X7_lastFrom_L2 (fun e2 x4 =>
      some (e2, x4)) 1000 a1 x
def f_X7_peak_L11F (r1 : Int32) (k : Int32 → IS → Option (Int32 × IS)) (go : Int32 → Int32 → IS → Option (Int32 × IS)) (v5 : Int32) (v6 : Int32) (x8 : IS) : Option (Int32 × IS) :=
  if r1 < v6 then
    k v5 x8
  else
    q_gd (q_in v6 102) (
    q_gd (q_in v5 102) (
    q_jn (fun (t14 : Int32) =>
      q_let (v6 + 1) fun v15 =>
      go t14 v15 x8) fun J39 =>
    if (x8 5 v6.toNatClampNeg) ≤ (x8 5 v5.toNatClampNeg) then
      J39 v5
    else
      J39 v6))
def f_X7_peak_L11 (r1 : Int32) (k : Int32 → IS → Option (Int32 × IS)) : Nat → Int32 → Int32 → IS → Option (Int32 × IS)
  | 0 => fun _ _ _ => none
  | n + 1 => f_X7_peak_L11F r1 k (f_X7_peak_L11 r1 k n)
def f_X7_peak (x : IS) (a1 : Int32) : Option (Int32 × IS) :=
  q_b2 (f_X7_lastFrom x a1) fun r1 x2 =>
  f_X7_peak_L11 r1 (fun e7 x9 =>
      some (e7, x9)) 1000 a1 a1 x2
def f_X7_bunch (x : IS) (a1 : Int32) (a2 : Int32) : Option (Int32 × IS) :=
  if a1 < (-1 : Int32) then
    some ((-1 : Int32), x)
  else
    q_b1 (f_X7_isIn a2 (0 : Int32) (2 : Int32)) fun r2 =>
    if r2 = 0 then
      some ((-1 : Int32), x)
    else
      q_b2 (f_X7_bunches x) fun r6 x7 =>
      q_jn (
        if 0 ≤ a1 then
          some ((-4 : Int32), x7)
        else
          some (r6, x7)) fun J30 =>
      if a1 < 0 then
        J30
      else
        if a1 < r6 then
          q_b2 (f_X7_firstOf x7 a1) fun r12 x13 =>
          if a2 = 0 then
            some (r12, x13)
          else
            if a2 = (1 : Int32) then
              q_b2 (f_X7_lastFrom x13 r12) fun r22 x23 =>
              some (r22, x23)
            else
              q_b2 (f_X7_peak x13 r12) fun r18 x19 =>
              some (r18, x19)
        else
          J30
def f_X7_enough_L27F (a1 : Int32) (v5 : Int32) (k : Int32 → IS → Option (Int32 × IS)) (go : Int32 → Int32 → IS → Option (Int32 × IS)) (v6 : Int32) (v7 : Int32) (x9 : IS) : Option (Int32 × IS) :=
  if v7 ≤ 0 then
    k v6 x9
  else
    q_let (q_up x9 5 (upd (x9 5) (99 : Int32).toNatClampNeg v7)) fun x12 =>
    q_b2 (f_X7_alarms x12) fun r13 x14 =>
    q_jn (fun (t18 : Int32) =>
      q_let (v7 + (-1)) fun v19 =>
      go t18 v19 x14) fun J55 =>
    if a1 < r13 then
      J55 v6
    else
      J55 v7
def f_X7_enough_L27 (a1 : Int32) (v5 : Int32) (k : Int32 → IS → Option (Int32 × IS)) : Nat → Int32 → Int32 → IS → Option (Int32 × IS)
  | 0 => fun _ _ _ => none
  | n + 1 => f_X7_enough_L27F a1 v5 k (f_X7_enough_L27 a1 v5 k n)
def f_X7_enough (x : IS) (a1 : Int32) : Option (Int32 × IS) :=
  q_b1 (f_X7_isIn a1 (0 : Int32) (48 : Int32)) fun r1 =>
  if r1 = 0 then
    some ((-1 : Int32), x)
  else
    q_let ((x 5 (99 : Int32).toNatClampNeg)) fun v5 =>
    f_X7_enough_L27 a1 v5 (fun e8 x10 =>
        q_let (q_up x10 5 (upd (x10 5) (99 : Int32).toNatClampNeg v5)) fun x20 =>
        some (e8, x20)) 1000 (-4 : Int32) (40 : Int32) x
def f_X7_noise (x : IS) (a1 : Int32) : Option (Int32) :=
  q_b1 (f_X7_isIn a1 (0 : Int32) (99 : Int32)) fun r1 =>
  if r1 = 0 then
    some (-1 : Int32)
  else
    if (8 : Int32) ≤ a1 then
      some (0 : Int32)
    else
      q_gd (q_in a1 8) (
      some (x 4 a1.toNatClampNeg))
def f_X7_weight_L4F (x : IS) (k : Int32 → Option (Int32)) (go : Int32 → Int32 → Option (Int32)) (v1 : Int32) (v2 : Int32) : Option (Int32) :=
  if (8 : Int32) ≤ v2 then
    k v1
  else
    q_gd (q_in v2 8) (
    q_let ((v1 + (x 4 v2.toNatClampNeg))) fun v6 =>
    q_let (v2 + 1) fun v7 =>
    go v6 v7)
def f_X7_weight_L4 (x : IS) (k : Int32 → Option (Int32)) : Nat → Int32 → Int32 → Option (Int32)
  | 0 => fun _ _ => none
  | n + 1 => f_X7_weight_L4F x k (f_X7_weight_L4 x k n)
def f_X7_weight (x : IS) : Option (Int32) :=
  f_X7_weight_L4 x (fun e3 =>
      some e3) 1000 (0 : Int32) (0 : Int32)
def f_X7_power1_L5F (a1 : Int64) (a2 : Int32) (k : Int64 → Option (Int64)) (go : Int64 → Int32 → Option (Int64)) (v1 : Int64) (v2 : Int32) : Option (Int64) :=
  if a2 ≤ v2 then
    k v1
  else
    q_let ((v1 * a1)) fun v5 =>
    q_let (v2 + 1) fun v6 =>
    go v5 v6
def f_X7_power1_L5 (a1 : Int64) (a2 : Int32) (k : Int64 → Option (Int64)) : Nat → Int64 → Int32 → Option (Int64)
  | 0 => fun _ _ => none
  | n + 1 => f_X7_power1_L5F a1 a2 k (f_X7_power1_L5 a1 a2 k n)
def f_X7_power1 (a1 : Int64) (a2 : Int32) : Option (Int64) :=
  f_X7_power1_L5 a1 a2 (fun e3 =>
      some e3) 1000 (1 : Int64) (0 : Int32)
def f_X7_choose_L5F (a1 : Int32) (a2 : Int32) (k : Int64 → Option (Int64)) (go : Int64 → Int32 → Option (Int64)) (v1 : Int64) (v2 : Int32) : Option (Int64) :=
  if a2 ≤ v2 then
    k v1
  else
    q_gd (¬ (Int32.toInt64 (v2 + (1 : Int32))) = 0) (
    q_let (((v1 * (Int32.toInt64 (a1 - v2))) / (Int32.toInt64 (v2 + (1 : Int32))))) fun v6 =>
    q_let (v2 + 1) fun v7 =>
    go v6 v7)
def f_X7_choose_L5 (a1 : Int32) (a2 : Int32) (k : Int64 → Option (Int64)) : Nat → Int64 → Int32 → Option (Int64)
  | 0 => fun _ _ => none
  | n + 1 => f_X7_choose_L5F a1 a2 k (f_X7_choose_L5 a1 a2 k n)
def f_X7_choose (a1 : Int32) (a2 : Int32) : Option (Int64) :=
  f_X7_choose_L5 a1 a2 (fun e3 =>
      some e3) 1000 (1 : Int64) (0 : Int32)
def f_X7_within_L38F (x : IS) (a1 : Int32) (a2 : Int64) (v6 : Int64) (k : Int64 → Option (Int64)) (go : Int64 → Int32 → Option (Int64)) (v7 : Int64) (v8 : Int32) : Option (Int64) :=
  if a1 < v8 then
    k v7
  else
    q_b1 (f_X7_choose a1 v8) fun r11 =>
    q_b1 (f_X7_power1 a2 v8) fun r13 =>
    q_b1 (f_X7_power1 (v6 - a2) (a1 - v8)) fun r15 =>
    q_let ((v7 + ((r11 * r13) * r15))) fun v17 =>
    q_let (v8 + 1) fun v18 =>
    go v17 v18
def f_X7_within_L38 (x : IS) (a1 : Int32) (a2 : Int64) (v6 : Int64) (k : Int64 → Option (Int64)) : Nat → Int64 → Int32 → Option (Int64)
  | 0 => fun _ _ => none
  | n + 1 => f_X7_within_L38F x a1 a2 v6 k (f_X7_within_L38 x a1 a2 v6 k n)
def f_X7_within (x : IS) (a1 : Int32) (a2 : Int64) : Option (Int64) :=
  q_jn (fun (t2 : Int32) =>
    q_b1 (f_X7_weight x) fun r3 =>
    q_let ((Int32.toInt64 r3)) fun v6 =>
    f_X7_within_L38 x a1 a2 v6 (fun e9 =>
        some e9) 1000 (0 : Int64) t2) fun J22 =>
  if a1 ≤ (x 5 (98 : Int32).toNatClampNeg) then
    J22 a1
  else
    J22 (x 5 (98 : Int32).toNatClampNeg)
def f_X7_floors (x : IS) (a1 : Int64) : Option (Int64) :=
  q_let ((x 5 (96 : Int32).toNatClampNeg)) fun v1 =>
  if (x 5 (101 : Int32).toNatClampNeg) = 0 then
    q_b1 (f_X7_within x ((2 : Int32) * v1) a1) fun r11 =>
    some r11
  else
    q_b1 (f_X7_within x v1 a1) fun r3 =>
    q_b1 (f_X7_weight x) fun r5 =>
    q_b1 (f_X7_power1 (Int32.toInt64 r5) v1) fun r8 =>
    if (x 5 (101 : Int32).toNatClampNeg) = (1 : Int32) then
      some (r3 * r3)
    else
      some ((r8 * r8) - ((r8 - r3) * (r8 - r3)))
def f_X7_falses_L45F (x : IS) (a1 : Int32) (v1 : Int64) (v2 : Int64) (v8 : Int64) (v4 : Int32) (r9 : Int64) (k : Int64 → Option (Int64)) (go : Int64 → Int32 → Option (Int64)) (v11 : Int64) (v12 : Int32) : Option (Int64) :=
  if (8 : Int32) ≤ v12 then
    k v11
  else
    q_jn (fun (t17 : Int64) =>
      q_let ((v11 + t17)) fun v18 =>
      q_let (v12 + 1) fun v19 =>
      go v18 v19) fun J83 =>
    if ((x 5 (100 : Int32).toNatClampNeg) * v12) ≤ (a1 * v4) then
      J83 (0 : Int64)
    else
      q_gd (q_in v12 8) (
      J83 (Int32.toInt64 (x 4 v12.toNatClampNeg)))
def f_X7_falses_L45 (x : IS) (a1 : Int32) (v1 : Int64) (v2 : Int64) (v8 : Int64) (v4 : Int32) (r9 : Int64) (k : Int64 → Option (Int64)) : Nat → Int64 → Int32 → Option (Int64)
  | 0 => fun _ _ => none
  | n + 1 => f_X7_falses_L45F x a1 v1 v2 v8 v4 r9 k (f_X7_falses_L45 x a1 v1 v2 v8 v4 r9 k n)
def f_X7_falses_L11F (x : IS) (a1 : Int32) (k : Int64 → Option (Int64)) (go : Int64 → Int64 → Int64 → Int32 → Option (Int64)) (v1 : Int64) (v2 : Int64) (v3 : Int64) (v4 : Int32) : Option (Int64) :=
  if (8 : Int32) ≤ v4 then
    k v1
  else
    q_gd (q_in v4 8) (
    q_let ((v3 + (Int32.toInt64 (x 4 v4.toNatClampNeg)))) fun v8 =>
    q_b1 (f_X7_floors x v8) fun r9 =>
    f_X7_falses_L45 x a1 v1 v2 v8 v4 r9 (fun e13 =>
        q_let ((v1 + ((r9 - v2) * e13))) fun v20 =>
        q_let (v4 + 1) fun v21 =>
        go v20 r9 v8 v21) 1000 (0 : Int64) (0 : Int32))
def f_X7_falses_L11 (x : IS) (a1 : Int32) (k : Int64 → Option (Int64)) : Nat → Int64 → Int64 → Int64 → Int32 → Option (Int64)
  | 0 => fun _ _ _ _ => none
  | n + 1 => f_X7_falses_L11F x a1 k (f_X7_falses_L11 x a1 k n)
def f_X7_falses (x : IS) (a1 : Int32) : Option (Int64) :=
  f_X7_falses_L11 x a1 (fun e5 =>
      some e5) 1000 (0 : Int64) (0 : Int64) (0 : Int64) (0 : Int32)
def f_X7_allWays (x : IS) : Option (Int64) :=
  q_b1 (f_X7_weight x) fun r1 =>
  q_b1 (f_X7_power1 (Int32.toInt64 r1) (((2 : Int32) * (x 5 (96 : Int32).toNatClampNeg)) + (1 : Int32))) fun r4 =>
  some r4
def f_X7_common_L6F (k : Int64 → Option (Int64)) (go : Int64 → Int64 → Option (Int64)) (v1 : Int64) (v2 : Int64) : Option (Int64) :=
  if (lg_cmp v2 (0 : Int64)) = 0 then
    k v1
  else
    q_gd (¬ v2 = 0) (
    q_let ((v1 - v1 / v2 * v2)) fun v6 =>
    go v2 v6)
def f_X7_common_L6 (k : Int64 → Option (Int64)) : Nat → Int64 → Int64 → Option (Int64)
  | 0 => fun _ _ => none
  | n + 1 => f_X7_common_L6F k (f_X7_common_L6 k n)
def f_X7_common (a1 : Int64) (a2 : Int64) : Option (Int64) :=
  f_X7_common_L6 (fun e3 =>
      some e3) 1000 a1 a2
def f_X7_odds (x : IS) (a1 : Int32) : Option (Int64) :=
  q_b1 (f_X7_isIn a1 (0 : Int32) (1 : Int32)) fun r1 =>
  if r1 = 0 then
    some (-1 : Int64)
  else
    q_b1 (f_X7_falses x (x 5 (99 : Int32).toNatClampNeg)) fun r5 =>
    q_b1 (f_X7_allWays x) fun r7 =>
    q_b1 (f_X7_common r5 r7) fun r9 =>
    if a1 = 0 then
      q_gd (¬ r9 = 0) (
      some (r5 / r9))
    else
      q_gd (¬ r9 = 0) (
      some (r7 / r9))
def f_X7_isNoMore_L17F (k : Int64 → Int64 → Int32 → Option (Int32)) (go : Int64 → Int64 → Int64 → Int64 → Int32 → Option (Int32)) (v1 : Int64) (v2 : Int64) (v3 : Int64) (v4 : Int64) (v5 : Int32) : Option (Int32) :=
  if (lg_cmp v2 (0 : Int64)) = 0 then
    k v2 v4 v5
  else
    if (lg_cmp v4 (0 : Int64)) = 0 then
      k v2 v4 v5
    else
      q_gd (¬ v2 = 0) (
      q_gd (¬ v4 = 0) (
      if (lg_cmp (v1 / v2) (v3 / v4)) = 0 then
        q_gd (¬ v2 = 0) (
        q_let ((v1 - v1 / v2 * v2)) fun v15 =>
        q_gd (¬ v4 = 0) (
        q_let ((v3 - v3 / v4 * v4)) fun v17 =>
        q_jn (fun (t19 : Int32) =>
          go v2 v15 v4 v17 t19) fun J115 =>
        if v5 = 0 then
          J115 (1 : Int32)
        else
          J115 (0 : Int32)))
      else
        q_gd (¬ v2 = 0) (
        q_gd (¬ v4 = 0) (
        q_jn (fun (t23 : Int32) =>
          if t23 = v5 then
            some (1 : Int32)
          else
            some (0 : Int32)) fun J64 =>
        if 0 ≤ (lg_cmp (v1 / v2) (v3 / v4)) then
          J64 (0 : Int32)
        else
          J64 (1 : Int32)))))
def f_X7_isNoMore_L17 (k : Int64 → Int64 → Int32 → Option (Int32)) : Nat → Int64 → Int64 → Int64 → Int64 → Int32 → Option (Int32)
  | 0 => fun _ _ _ _ _ => none
  | n + 1 => f_X7_isNoMore_L17F k (f_X7_isNoMore_L17 k n)
def f_X7_isNoMore (a1 : Int64) (a2 : Int64) (a3 : Int64) (a4 : Int64) : Option (Int32) :=
  f_X7_isNoMore_L17 (fun e6 e7 e8 =>
      q_jn (
        q_jn (fun (t28 : Int32) =>
          if t28 = e8 then
            some (0 : Int32)
          else
            some (1 : Int32)) fun J146 =>
        if (lg_cmp e6 (0 : Int64)) = 0 then
          J146 (1 : Int32)
        else
          J146 (0 : Int32)) fun J134 =>
      if (lg_cmp e6 (0 : Int64)) = 0 then
        if (lg_cmp e7 (0 : Int64)) = 0 then
          some (1 : Int32)
        else
          J134
      else
        J134) 1000 a1 a2 a3 a4 (1 : Int32)
def f_X7_factor_L24F (x : IS) (a1 : Int32) (a2 : Int32) (k : Option (Int32)) (go : Int32 → Option (Int32)) (v9 : Int32) : Option (Int32) :=
  if (40 : Int32) < v9 then
    k
  else
    q_b1 (f_X7_falses x v9) fun r11 =>
    q_b1 (f_X7_allWays x) fun r13 =>
    q_b1 (f_X7_isNoMore r11 r13 (Int32.toInt64 a1) (Int32.toInt64 a2)) fun r15 =>
    if r15 = 0 then
      q_let (v9 + 1) fun v19 =>
      go v19
    else
      some v9
def f_X7_factor_L24 (x : IS) (a1 : Int32) (a2 : Int32) (k : Option (Int32)) : Nat → Int32 → Option (Int32)
  | 0 => fun _ => none
  | n + 1 => f_X7_factor_L24F x a1 a2 k (f_X7_factor_L24 x a1 a2 k n)
def f_X7_factor (x : IS) (a1 : Int32) (a2 : Int32) : Option (Int32) :=
  q_b1 (f_X7_isIn a1 (1 : Int32) (1000000 : Int32)) fun r1 =>
  if r1 = 0 then
    some (-1 : Int32)
  else
    q_b1 (f_X7_isIn a2 (1 : Int32) (1000000 : Int32)) fun r5 =>
    if r5 = 0 then
      some (-1 : Int32)
    else
      f_X7_factor_L24 x a1 a2 (
          some (-4 : Int32)) 1000 (1 : Int32)
def f_X7_figure (a1 : Int32) (a2 : Int32) : Option (Int32) :=
  if (10 : Int32) ≤ a1 then
    if a2 = 0 then
      some ((48 : Int32) + (a1 / (10 : Int32)))
    else
      if a2 = (1 : Int32) then
        some ((48 : Int32) + (a1 - a1 / (10 : Int32) * (10 : Int32)))
      else
        some (-4 : Int32)
  else
    if a2 = 0 then
      some ((48 : Int32) + a1)
    else
      some (-4 : Int32)
def f_X7_sign (x : IS) (a1 : Int32) : Option (Int32 × IS) :=
  q_gd (q_in ((48 : Int32) + a1) 102) (
  if (x 5 ((48 : Int32) + a1).toNatClampNeg) = (1 : Int32) then
    some ((120 : Int32), x)
  else
    q_b2 (f_X7_isAlarm x a1) fun r3 x4 =>
    if r3 = 0 then
      some ((46 : Int32), x4)
    else
      q_b2 (f_X7_bunchesTo x4 a1) fun r8 x9 =>
      q_b2 (f_X7_firstOf x9 r8) fun r12 x13 =>
      q_b2 (f_X7_peak x13 r12) fun r16 x17 =>
      if r16 = a1 then
        some ((94 : Int32), x17)
      else
        some ((33 : Int32), x17))
def f_X7_drawn (x : IS) (a1 : Int32) : Option (Int32 × IS) :=
  if 0 ≤ a1 then
    if (x 2 0) < a1 then
      q_b2 (f_X7_alarms x) fun r3 x4 =>
      q_jn (fun (t8 : Int32) =>
        q_let (((a1 - (x4 2 0)) - (1 : Int32))) fun v9 =>
        if t8 < v9 then
          q_b2 (f_X7_bunches x4) fun r11 x12 =>
          q_b1 (f_X7_figure r11 ((v9 - t8) - (1 : Int32))) fun r15 =>
          some (r15, x12)
        else
          if t8 ≤ v9 then
            some ((32 : Int32), x4)
          else
            q_b1 (f_X7_figure r3 v9) fun r19 =>
            some (r19, x4)) fun J49 =>
      if (10 : Int32) ≤ r3 then
        J49 (2 : Int32)
      else
        J49 (1 : Int32)
    else
      if (x 2 0) ≤ a1 then
        some ((61 : Int32), x)
      else
        q_b2 (f_X7_sign x a1) fun r23 x24 =>
        some (r23, x24)
  else
    some ((-1 : Int32), x)
def f_X7_count (x : IS) (a1 : Int32) : Option (Int32 × IS) :=
  q_jn (
    q_gd (q_in ((95 : Int32) + a1) 102) (
    some ((x 5 ((95 : Int32) + a1).toNatClampNeg), x))) fun J69 =>
  if a1 = 0 then
    some ((x 2 0), x)
  else
  if a1 = 1 then
    J69
  else
  if a1 = 2 then
    J69
  else
  if a1 = 3 then
    J69
  else
  if a1 = 4 then
    J69
  else
  if a1 = 5 then
    J69
  else
  if a1 = 6 then
    J69
  else
  if a1 = 7 then
    q_b2 (f_X7_alarms x) fun r20 x21 =>
    some (r20, x21)
  else
  if a1 = 8 then
    q_b2 (f_X7_bunches x) fun r16 x17 =>
    some (r16, x17)
  else
  if a1 = 9 then
    q_b1 (f_X7_leftOut x) fun r13 =>
    some (r13, x)
  else
  if a1 = 10 then
    some ((x 7 0), x)
  else
  if a1 = 11 then
    some ((x 0 0), x)
  else
  some ((-1 : Int32), x)
end
