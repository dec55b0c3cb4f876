section
def f_X3_sortIn_L22F (a1 : Int32) (k : Int32 → IS → Option (IS)) (go : Int32 → IS → Option (IS)) (v4 : Int32) (x6 : IS) : Option (IS) :=
  if v4 ≤ 0 then
    k v4 x6
  else
    q_gd (q_in (v4 - (1 : Int32)) 12) (
    if (x6 11 (v4 - (1 : Int32)).toNatClampNeg) ≤ a1 then
      k v4 x6
    else
      q_gd (q_in (v4 - (1 : Int32)) 12) (
      q_gd (q_in v4 12) (
      q_let (q_up x6 11 (upd (x6 11) v4.toNatClampNeg (x6 11 (v4 - (1 : Int32)).toNatClampNeg))) fun x13 =>
      q_let (v4 + (-1)) fun v14 =>
      go v14 x13)))
def f_X3_sortIn_L22 (a1 : Int32) (k : Int32 → IS → Option (IS)) : Nat → Int32 → IS → Option (IS)
  | 0 => fun _ _ => none
  | n + 1 => f_X3_sortIn_L22F a1 k (f_X3_sortIn_L22 a1 k n)
def f_X3_sortIn (x : IS) (a1 : Int32) : Option (IS) :=
  if (x 12 0) < 0 then
    some x
  else
    if (x 12 0) < (12 : Int32) then
      q_let ((x 12 0)) fun v3 =>
      f_X3_sortIn_L22 a1 (fun e5 x7 =>
          q_gd (q_in e5 12) (
          q_let (q_up x7 11 (upd (x7 11) e5.toNatClampNeg a1)) fun x16 =>
          q_let (q_up x16 12 (fun _ => ((x16 12 0) + (1 : Int32)))) fun x17 =>
          some x17)) 1000 v3 x
    else
      some x
def f_X3_gatherFrom_L7F (a2 : Int32) (a3 : Int32) (k : IS → Option (IS)) (go : Int32 → IS → Option (IS)) (v2 : Int32) (x3 : IS) : Option (IS) :=
  if a2 < v2 then
    k x3
  else
    if (x3 13 0) ≤ v2 then
      k x3
    else
      if (48 : Int32) ≤ v2 then
        k x3
      else
        q_gd (q_in v2 48) (
        q_jn (fun (x14 : IS) =>
          q_let (v2 + 1) fun v15 =>
          go v15 x14) fun J56 =>
        if (x3 9 v2.toNatClampNeg) = 0 then
          if v2 = a3 then
            J56 x3
          else
            q_gd (q_in v2 48) (
            q_b1 (f_X3_sortIn x3 (x3 8 v2.toNatClampNeg)) fun x12 =>
            J56 x12)
        else
          J56 x3)
def f_X3_gatherFrom_L7 (a2 : Int32) (a3 : Int32) (k : IS → Option (IS)) : Nat → Int32 → IS → Option (IS)
  | 0 => fun _ _ => none
  | n + 1 => f_X3_gatherFrom_L7F a2 a3 k (f_X3_gatherFrom_L7 a2 a3 k n)
def f_X3_gatherFrom (x : IS) (a1 : Int32) (a2 : Int32) (a3 : Int32) : Option (IS) :=
  q_let ((if a1 < (0 : Int32) then (0 : Int32) else a1)) fun v1 =>
  f_X3_gatherFrom_L7 a2 a3 (fun x4 =>
      some x4) 1000 v1 x
def f_X3_gather (x : IS) (a1 : Int32) (a2 : Int32) (a3 : Int32) : Option (Int32 × IS) :=
  q_let ((x 10 (0 : Int32).toNatClampNeg)) fun v1 =>
  q_let ((x 10 (1 : Int32).toNatClampNeg)) fun v2 =>
  q_let (q_up x 12 (fun _ => (0 : Int32))) fun x3 =>
  q_jn (fun (x7 : IS) =>
    if a2 = 0 then
      some ((x7 12 0), x7)
    else
      q_b1 (f_X3_gatherFrom x7 ((a1 + v2) + (1 : Int32)) ((a1 + v2) + v1) a3) fun x9 =>
      some ((x9 12 0), x9)) fun J44 =>
  if a2 = (1 : Int32) then
    J44 x3
  else
    q_b1 (f_X3_gatherFrom x3 ((a1 - v2) - v1) ((a1 - v2) - (1 : Int32)) a3) fun x5 =>
    J44 x5
def f_X3_rankOn (x : IS) (a1 : Int32) (a2 : Int32) (a3 : Int32) : Option (Int32 × IS) :=
  q_b2 (f_X3_gather x a1 a2 a3) fun r1 x2 =>
  q_let (((if (x2 10 (2 : Int32).toNatClampNeg) < r1 then (x2 10 (2 : Int32).toNatClampNeg) else r1) - (1 : Int32))) fun v5 =>
  if v5 < 0 then
    some ((-4 : Int32), x2)
  else
    if (12 : Int32) ≤ v5 then
      some ((-4 : Int32), x2)
    else
      q_gd (q_in v5 12) (
      some ((x2 11 v5.toNatClampNeg), x2))
def f_X3_floorOf (x : IS) (a1 : Int32) (a2 : Int32) : Option (Int32 × IS) :=
  if (x 14 0) = 0 then
    q_b2 (f_X3_rankOn x a1 (2 : Int32) a2) fun r13 x14 =>
    some (r13, x14)
  else
    q_b2 (f_X3_rankOn x a1 (0 : Int32) a2) fun r2 x3 =>
    q_b2 (f_X3_rankOn x3 a1 (1 : Int32) a2) fun r6 x7 =>
    if r2 = (-4 : Int32) then
      some (r6, x7)
    else
      if r6 = (-4 : Int32) then
        some (r2, x7)
      else
        if (x7 14 0) = (1 : Int32) then
          some ((if r2 < r6 then r6 else r2), x7)
        else
          some ((if r6 < r2 then r6 else r2), x7)
def f_X3_has (x : IS) (a1 : Int32) : Option (Int32) :=
  if a1 < 0 then
    some (0 : Int32)
  else
    if (x 13 0) ≤ a1 then
      some (0 : Int32)
    else
      if (48 : Int32) ≤ a1 then
        some (0 : Int32)
      else
        some (1 : Int32)
def f_X3_outdoes (x : IS) (a1 : Int32) (a2 : Int32) (a3 : Int32) : Option (Int32) :=
  q_b1 (f_X3_has x a1) fun r1 =>
  if r1 = 0 then
    some (0 : Int32)
  else
    q_gd (q_in a1 48) (
    if (x 9 a1.toNatClampNeg) = 0 then
      if a2 = (-4 : Int32) then
        some (0 : Int32)
      else
        q_gd (q_in a1 48) (
        if ((x 10 (4 : Int32).toNatClampNeg) * (x 8 a1.toNatClampNeg)) ≤ (a3 * a2) then
          some (0 : Int32)
        else
          some (1 : Int32))
    else
      some (0 : Int32))
def f_X0_addToBunch (x : IS) (a1 : Int32) : Option (IS) :=
  q_jn (fun (t4 : Int32) =>
    q_jn (fun (t6 : Int32) =>
      if t6 < (48 : Int32) then
        q_jn (fun (x14 : IS) =>
          q_gd (q_in t6 48) (
          q_let (q_up x14 19 (upd (x14 19) t6.toNatClampNeg a1)) fun x16 =>
          q_gd (q_in a1 48) (
          q_let (q_up x16 17 (upd (x16 17) a1.toNatClampNeg t6)) fun x18 =>
          q_gd (q_in a1 48) (
          q_gd (q_in t6 48) (
          q_gd (q_in (x18 20 t6.toNatClampNeg) 48) (
          if (x18 8 a1.toNatClampNeg) ≤ (x18 8 (x18 20 t6.toNatClampNeg).toNatClampNeg) then
            some x18
          else
            q_gd (q_in t6 48) (
            q_let (q_up x18 20 (upd (x18 20) t6.toNatClampNeg a1)) fun x24 =>
            some x24))))))) fun J87 =>
        if t4 = 0 then
          q_gd (q_in t6 48) (
          q_let (q_up x 18 (upd (x 18) t6.toNatClampNeg a1)) fun x10 =>
          q_gd (q_in t6 48) (
          q_let (q_up x10 20 (upd (x10 20) t6.toNatClampNeg a1)) fun x12 =>
          q_let (q_up x12 22 (fun _ => ((x12 22 0) + (1 : Int32)))) fun x13 =>
          J87 x13))
        else
          J87 x
      else
        some x) fun J47 =>
    if t4 = 0 then
      J47 (x 22 0)
    else
      J47 ((x 22 0) - (1 : Int32))) fun J29 =>
  q_jn (
    J29 (0 : Int32)) fun J28 =>
  if (x 22 0) ≤ 0 then
    J28
  else
    q_gd (q_in ((x 22 0) - (1 : Int32)) 48) (
    if (x 19 ((x 22 0) - (1 : Int32)).toNatClampNeg) = (a1 - (1 : Int32)) then
      J29 (1 : Int32)
    else
      J28)
def f_X0_settle_L25F (k : IS → Option (IS)) (go : Int32 → IS → Option (IS)) (v5 : Int32) (x6 : IS) : Option (IS) :=
  if (x6 13 0) ≤ v5 then
    k x6
  else
    if (48 : Int32) ≤ v5 then
      k x6
    else
      q_b2 (f_X3_floorOf x6 v5 (-4 : Int32)) fun r10 x11 =>
      q_gd (q_in v5 48) (
      q_let (q_up x11 16 (upd (x11 16) v5.toNatClampNeg r10)) fun x15 =>
      q_gd (q_in v5 48) (
      q_let (q_up x15 17 (upd (x15 17) v5.toNatClampNeg (-4 : Int32))) fun x17 =>
      q_gd (q_in v5 48) (
      q_b1 (f_X3_outdoes x17 v5 (x17 16 v5.toNatClampNeg) (x17 10 (3 : Int32).toNatClampNeg)) fun r19 =>
      q_jn (fun (x26 : IS) =>
        q_let (v5 + 1) fun v27 =>
        go v27 x26) fun J96 =>
      if r19 = 0 then
        J96 x17
      else
        q_let (q_up x17 21 (fun _ => ((x17 21 0) + (1 : Int32)))) fun x23 =>
        q_b1 (f_X0_addToBunch x23 v5) fun x24 =>
        J96 x24)))
def f_X0_settle_L25 (k : IS → Option (IS)) : Nat → Int32 → IS → Option (IS)
  | 0 => fun _ _ => none
  | n + 1 => f_X0_settle_L25F k (f_X0_settle_L25 k n)
def f_X0_settle (x : IS) : Option (IS) :=
  if (x 15 0) = 0 then
    some x
  else
    q_let (q_up x 15 (fun _ => (0 : Int32))) fun x2 =>
    q_let (q_up x2 21 (fun _ => (0 : Int32))) fun x3 =>
    q_let (q_up x3 22 (fun _ => (0 : Int32))) fun x4 =>
    f_X0_settle_L25 (fun x7 =>
        some x7) 1000 (0 : Int32) x4
def f_X0_howManyBy_L5F (x : IS) (a1 : Int32) (k : Int32 → Option (Int32)) (go : Int32 → Int32 → Option (Int32)) (v1 : Int32) (v2 : Int32) : Option (Int32) :=
  if (x 13 0) ≤ v2 then
    k v1
  else
    if (48 : Int32) ≤ v2 then
      k v1
    else
      q_gd (q_in v2 48) (
      q_b1 (f_X3_outdoes x v2 (x 16 v2.toNatClampNeg) a1) fun r7 =>
      q_jn (fun (v12 : Int32) =>
        q_let (v2 + 1) fun v13 =>
        go v12 v13) fun J41 =>
      if r7 = 0 then
        J41 v1
      else
        q_let (v1 + 1) fun v11 =>
        J41 v11)
def f_X0_howManyBy_L5 (x : IS) (a1 : Int32) (k : Int32 → Option (Int32)) : Nat → Int32 → Int32 → Option (Int32)
  | 0 => fun _ _ => none
  | n + 1 => f_X0_howManyBy_L5F x a1 k (f_X0_howManyBy_L5 x a1 k n)
def f_X0_howManyBy (x : IS) (a1 : Int32) : Option (Int32) :=
  f_X0_howManyBy_L5 x a1 (fun e3 =>
      some e3) 1000 (0 : Int32) (0 : Int32)
def f_X0_letterOf (x : IS) (a1 : Int32) : Option (Int32) :=
  q_gd (q_in a1 48) (
  q_let ((x 17 a1.toNatClampNeg)) fun v2 =>
  if v2 < 0 then
    some (46 : Int32)
  else
    if v2 < (x 22 0) then
      q_gd (q_in v2 48) (
      if (x 20 v2.toNatClampNeg) = a1 then
        some (94 : Int32)
      else
        some (33 : Int32))
    else
      some (46 : Int32))
def f_X1_take_L7F (k : IS → Option (IS)) (go : Int32 → IS → Option (IS)) (v2 : Int32) (x3 : IS) : Option (IS) :=
  if (8 : Int32) ≤ v2 then
    k x3
  else
    q_gd (q_in v2 8) (
    q_gd (q_in v2 8) (
    q_let (q_up x3 23 (upd (x3 23) v2.toNatClampNeg (x3 5 v2.toNatClampNeg))) fun x8 =>
    q_gd (q_in v2 8) (
    q_let (q_up x8 24 (fun _ => ((x8 24 0) + (x8 23 v2.toNatClampNeg)))) fun x10 =>
    q_let (v2 + 1) fun v11 =>
    go v11 x10)))
def f_X1_take_L7 (k : IS → Option (IS)) : Nat → Int32 → IS → Option (IS)
  | 0 => fun _ _ => none
  | n + 1 => f_X1_take_L7F k (f_X1_take_L7 k n)
def f_X1_take (x : IS) : Option (IS) :=
  q_let (q_up x 24 (fun _ => (0 : Int32))) fun x1 =>
  f_X1_take_L7 (fun x4 =>
      some x4) 1000 (0 : Int32) x1
def f_J7_fill_d0a16__X1_waysByHowMany_L6F (a2 : Int64) (k : JS → Option (JS)) (go : Int32 → JS → Option (JS)) (v1 : Int32) (j2 : JS) : Option (JS) :=
  if (13 : Int32) ≤ v1 then
    k j2
  else
    q_gd (q_in v1 13) (
    q_let (q_upJ j2 0 (vp_updL (j2 0) v1.toNatClampNeg a2)) fun j6 =>
    q_let (v1 + 1) fun v7 =>
    go v7 j6)
def f_J7_fill_d0a16__X1_waysByHowMany_L6 (a2 : Int64) (k : JS → Option (JS)) : Nat → Int32 → JS → Option (JS)
  | 0 => fun _ _ => none
  | n + 1 => f_J7_fill_d0a16__X1_waysByHowMany_L6F a2 k (f_J7_fill_d0a16__X1_waysByHowMany_L6 a2 k n)
def f_J7_fill_d0a16__X1_waysByHowMany (j : JS) (a2 : Int64) : Option (JS) :=
  f_J7_fill_d0a16__X1_waysByHowMany_L6 a2 (fun j3 =>
      some j3) 1000 (0 : Int32) j
def f_X1_waysOfRankAtMost_L43F (x : IS) (a1 : Int32) (a2 : Int32) (a3 : Int32) (v1 : Int32) (v5 : Int32) (k : JS → Option (Int64 × JS)) (go : Int32 → JS → Option (Int64 × JS)) (v10 : Int32) (j11 : JS) : Option (Int64 × JS) :=
  if v10 ≤ 0 then
    k j11
  else
    q_gd (q_in v10 13) (
    q_gd (q_in (v10 - (1 : Int32)) 13) (
    q_gd (q_in v10 13) (
    q_let (q_upJ j11 0 (vp_updL (j11 0) v10.toNatClampNeg (((j11 0 v10.toNatClampNeg) * (Int32.toInt64 v1)) + ((j11 0 (v10 - (1 : Int32)).toNatClampNeg) * (Int32.toInt64 a1))))) fun j17 =>
    q_let (v10 + (-1)) fun v18 =>
    go v18 j17)))
def f_X1_waysOfRankAtMost_L43 (x : IS) (a1 : Int32) (a2 : Int32) (a3 : Int32) (v1 : Int32) (v5 : Int32) (k : JS → Option (Int64 × JS)) : Nat → Int32 → JS → Option (Int64 × JS)
  | 0 => fun _ _ => none
  | n + 1 => f_X1_waysOfRankAtMost_L43F x a1 a2 a3 v1 v5 k (f_X1_waysOfRankAtMost_L43 x a1 a2 a3 v1 v5 k n)
def f_X1_waysOfRankAtMost_L26F (x : IS) (a1 : Int32) (a2 : Int32) (a3 : Int32) (v1 : Int32) (k : JS → Option (Int64 × JS)) (go : Int32 → JS → Option (Int64 × JS)) (v5 : Int32) (j6 : JS) : Option (Int64 × JS) :=
  if a2 < v5 then
    k j6
  else
    if (12 : Int32) < v5 then
      k j6
    else
      f_X1_waysOfRankAtMost_L43 x a1 a2 a3 v1 v5 (fun j12 =>
          q_let (q_upJ j12 0 (vp_updL (j12 0) (0 : Int32).toNatClampNeg ((j12 0 (0 : Int32).toNatClampNeg) * (Int32.toInt64 v1)))) fun j19 =>
          q_let (v5 + 1) fun v20 =>
          go v20 j19) 1000 v5 j6
def f_X1_waysOfRankAtMost_L26 (x : IS) (a1 : Int32) (a2 : Int32) (a3 : Int32) (v1 : Int32) (k : JS → Option (Int64 × JS)) : Nat → Int32 → JS → Option (Int64 × JS)
  | 0 => fun _ _ => none
  | n + 1 => f_X1_waysOfRankAtMost_L26F x a1 a2 a3 v1 k (f_X1_waysOfRankAtMost_L26 x a1 a2 a3 v1 k n)
def f_X1_waysOfRankAtMost_L113F (x : IS) (a2 : Int32) (k : Int64 → JS → Option (Int64 × JS)) (go : Int64 → Int32 → JS → Option (Int64 × JS)) (v22 : Int64) (v23 : Int32) (j25 : JS) : Option (Int64 × JS) :=
  if a2 < v23 then
    k v22 j25
  else
    if (12 : Int32) < v23 then
      k v22 j25
    else
      q_gd (q_in v23 13) (
      q_let ((v22 + (j25 0 v23.toNatClampNeg))) fun v30 =>
      q_let (v23 + 1) fun v31 =>
      go v30 v31 j25)
def f_X1_waysOfRankAtMost_L113 (x : IS) (a2 : Int32) (k : Int64 → JS → Option (Int64 × JS)) : Nat → Int64 → Int32 → JS → Option (Int64 × JS)
  | 0 => fun _ _ _ => none
  | n + 1 => f_X1_waysOfRankAtMost_L113F x a2 k (f_X1_waysOfRankAtMost_L113 x a2 k n)
def f_X1_waysOfRankAtMost (x : IS) (j : JS) (a1 : Int32) (a2 : Int32) (a3 : Int32) : Option (Int64 × JS) :=
  q_let (((x 24 0) - a1)) fun v1 =>
  q_b1 (f_J7_fill_d0a16__X1_waysByHowMany j (0 : Int64)) fun j2 =>
  q_let (q_upJ j2 0 (vp_updL (j2 0) (0 : Int32).toNatClampNeg (1 : Int64))) fun j4 =>
  f_X1_waysOfRankAtMost_L26 x a1 a2 a3 v1 (fun j7 =>
      q_let ((if a2 < a3 then a2 else a3)) fun v21 =>
      f_X1_waysOfRankAtMost_L113 x a2 (fun e24 j26 =>
          some (e24, j26)) 1000 (0 : Int64) v21 j7) 1000 (1 : Int32) j4
def f_X1_raised_L5F (x : IS) (a1 : Int32) (k : Int64 → Option (Int64)) (go : Int64 → Int32 → Option (Int64)) (v1 : Int64) (v2 : Int32) : Option (Int64) :=
  if a1 ≤ v2 then
    k v1
  else
    q_let ((v1 * (Int32.toInt64 (x 24 0)))) fun v5 =>
    q_let (v2 + 1) fun v6 =>
    go v5 v6
def f_X1_raised_L5 (x : IS) (a1 : Int32) (k : Int64 → Option (Int64)) : Nat → Int64 → Int32 → Option (Int64)
  | 0 => fun _ _ => none
  | n + 1 => f_X1_raised_L5F x a1 k (f_X1_raised_L5 x a1 k n)
def f_X1_raised (x : IS) (a1 : Int32) : Option (Int64) :=
  f_X1_raised_L5 x a1 (fun e3 =>
      some e3) 1000 (1 : Int64) (0 : Int32)
def f_X1_waysOfFloorAtMost (x : IS) (j : JS) (a1 : Int32) (a2 : Int32) (a3 : Int32) (a4 : Int32) : Option (Int64 × JS) :=
  if a4 = 0 then
    q_b2 (f_X1_waysOfRankAtMost x j a1 ((2 : Int32) * a2) a3) fun r8 j9 =>
    some (r8, j9)
  else
    q_b2 (f_X1_waysOfRankAtMost x j a1 a2 a3) fun r2 j3 =>
    if a4 = (1 : Int32) then
      some ((r2 * r2), j3)
    else
      q_b1 (f_X1_raised x a2) fun r6 =>
      some (((r6 * r6) - ((r6 - r2) * (r6 - r2))), j3)
def f_X1_countFloors_L8F (x : IS) (a2 : Int32) (k : JS → Option (JS)) (go : Int32 → Int64 → Int32 → JS → Option (JS)) (v1 : Int32) (v2 : Int64) (v3 : Int32) (j4 : JS) : Option (JS) :=
  if (8 : Int32) ≤ v3 then
    k j4
  else
    q_gd (q_in v3 8) (
    q_let ((v1 + (x 23 v3.toNatClampNeg))) fun v8 =>
    q_b2 (f_X1_waysOfFloorAtMost x j4 v8 (x 10 (0 : Int32).toNatClampNeg) (x 10 (2 : Int32).toNatClampNeg) a2) fun r9 j10 =>
    q_gd (q_in v3 8) (
    q_let (q_upJ j10 1 (vp_updL (j10 1) v3.toNatClampNeg (r9 - v2))) fun j13 =>
    q_let (v3 + 1) fun v14 =>
    go v8 r9 v14 j13))
def f_X1_countFloors_L8 (x : IS) (a2 : Int32) (k : JS → Option (JS)) : Nat → Int32 → Int64 → Int32 → JS → Option (JS)
  | 0 => fun _ _ _ _ => none
  | n + 1 => f_X1_countFloors_L8F x a2 k (f_X1_countFloors_L8 x a2 k n)
def f_X1_countFloors (x : IS) (j : JS) (a2 : Int32) : Option (JS) :=
  f_X1_countFloors_L8 x a2 (fun j5 =>
      some j5) 1000 (0 : Int32) (0 : Int64) (0 : Int32) j
def f_X1_allWays (x : IS) (a1 : Int32) : Option (Int64) :=
  q_b1 (f_X1_raised x (((2 : Int32) * a1) + (1 : Int32))) fun r1 =>
  some r1
def f_X1_alarmWays_L15F (x : IS) (j : JS) (a1 : Int32) (a2 : Int32) (v2 : Int32) (k : Int64 → Option (Int64)) (go : Int64 → Int32 → Option (Int64)) (v5 : Int64) (v6 : Int32) : Option (Int64) :=
  if (8 : Int32) ≤ v6 then
    k v5
  else
    if (a2 * v2) ≤ (a1 * v6) then
      k v5
    else
      q_gd (q_in v2 8) (
      q_gd (q_in v6 8) (
      q_let ((v5 + ((Int32.toInt64 (x 23 v2.toNatClampNeg)) * (j 1 v6.toNatClampNeg)))) fun v12 =>
      q_let (v6 + 1) fun v13 =>
      go v12 v13))
def f_X1_alarmWays_L15 (x : IS) (j : JS) (a1 : Int32) (a2 : Int32) (v2 : Int32) (k : Int64 → Option (Int64)) : Nat → Int64 → Int32 → Option (Int64)
  | 0 => fun _ _ => none
  | n + 1 => f_X1_alarmWays_L15F x j a1 a2 v2 k (f_X1_alarmWays_L15 x j a1 a2 v2 k n)
def f_X1_alarmWays_L5F (x : IS) (j : JS) (a1 : Int32) (a2 : Int32) (k : Int64 → Option (Int64)) (go : Int64 → Int32 → Option (Int64)) (v1 : Int64) (v2 : Int32) : Option (Int64) :=
  if (8 : Int32) ≤ v2 then
    k v1
  else
    f_X1_alarmWays_L15 x j a1 a2 v2 (fun e7 =>
        q_let (v2 + 1) fun v14 =>
        go e7 v14) 1000 v1 (0 : Int32)
def f_X1_alarmWays_L5 (x : IS) (j : JS) (a1 : Int32) (a2 : Int32) (k : Int64 → Option (Int64)) : Nat → Int64 → Int32 → Option (Int64)
  | 0 => fun _ _ => none
  | n + 1 => f_X1_alarmWays_L5F x j a1 a2 k (f_X1_alarmWays_L5 x j a1 a2 k n)
def f_X1_alarmWays (x : IS) (j : JS) (a1 : Int32) (a2 : Int32) : Option (Int64) :=
  f_X1_alarmWays_L5 x j a1 a2 (fun e3 =>
      some e3) 1000 (0 : Int64) (0 : Int32)
def f_X2_forgetOldest (x : IS) : Option (IS) :=
  q_let (q_up x 28 (fun _ => (5 : Int32))) fun x1 =>
  q_gd (¬ (1 : Int32) < 0 ∧ ¬ (0 : Int32) < 0 ∧ ¬ (x1 28 0) < 0 ∧ (1 : Int32).toNatClampNeg + (x1 28 0).toNatClampNeg ≤ 6 ∧ (0 : Int32).toNatClampNeg + (x1 28 0).toNatClampNeg ≤ 6) (
  q_let (q_up x1 25 (va_cpy (x1 25) (x1 25) (1 : Int32).toNatClampNeg (0 : Int32).toNatClampNeg (x1 28 0).toNatClampNeg)) fun x2 =>
  q_gd (¬ (1 : Int32) < 0 ∧ ¬ (0 : Int32) < 0 ∧ ¬ (x2 28 0) < 0 ∧ (1 : Int32).toNatClampNeg + (x2 28 0).toNatClampNeg ≤ 6 ∧ (0 : Int32).toNatClampNeg + (x2 28 0).toNatClampNeg ≤ 6) (
  q_let (q_up x2 26 (va_cpy (x2 26) (x2 26) (1 : Int32).toNatClampNeg (0 : Int32).toNatClampNeg (x2 28 0).toNatClampNeg)) fun x4 =>
  q_gd (¬ (1 : Int32) < 0 ∧ ¬ (0 : Int32) < 0 ∧ ¬ (x4 28 0) < 0 ∧ (1 : Int32).toNatClampNeg + (x4 28 0).toNatClampNeg ≤ 6 ∧ (0 : Int32).toNatClampNeg + (x4 28 0).toNatClampNeg ≤ 6) (
  q_let (q_up x4 27 (va_cpy (x4 27) (x4 27) (1 : Int32).toNatClampNeg (0 : Int32).toNatClampNeg (x4 28 0).toNatClampNeg)) fun x6 =>
  some x6)))
def f_X2_keep (x : IS) (a1 : Int32) (a2 : Int32) (a3 : Int32) : Option (IS) :=
  q_jn (fun (x4 : IS) =>
    q_gd (q_in (x4 28 0) 6) (
    q_let (q_up x4 25 (upd (x4 25) (x4 28 0).toNatClampNeg a1)) fun x6 =>
    q_gd (q_in (x6 28 0) 6) (
    q_let (q_up x6 26 (upd (x6 26) (x6 28 0).toNatClampNeg a2)) fun x8 =>
    q_gd (q_in (x8 28 0) 6) (
    q_let (q_up x8 27 (upd (x8 27) (x8 28 0).toNatClampNeg a3)) fun x10 =>
    q_let (q_up x10 28 (fun _ => ((x10 28 0) + (1 : Int32)))) fun x11 =>
    some x11)))) fun J13 =>
  if (x 28 0) < (6 : Int32) then
    J13 x
  else
    q_b1 (f_X2_forgetOldest x) fun x2 =>
    J13 x2
def f_J7_fill_53178__X3_left_L5F (a2 : Int32) (k : IS → Option (IS)) (go : Int32 → IS → Option (IS)) (v1 : Int32) (x2 : IS) : Option (IS) :=
  if (48 : Int32) ≤ v1 then
    k x2
  else
    q_gd (q_in v1 48) (
    q_let (q_up x2 9 (upd (x2 9) v1.toNatClampNeg a2)) fun x6 =>
    q_let (v1 + 1) fun v7 =>
    go v7 x6)
def f_J7_fill_53178__X3_left_L5 (a2 : Int32) (k : IS → Option (IS)) : Nat → Int32 → IS → Option (IS)
  | 0 => fun _ _ => none
  | n + 1 => f_J7_fill_53178__X3_left_L5F a2 k (f_J7_fill_53178__X3_left_L5 a2 k n)
def f_J7_fill_53178__X3_left (x : IS) (a2 : Int32) : Option (IS) :=
  f_J7_fill_53178__X3_left_L5 a2 (fun x3 =>
      some x3) 1000 (0 : Int32) x
def f_X3_take (x : IS) : Option (IS) :=
  q_let (q_up x 8 (va_cpy (x 3) (x 8) (0 : Int32).toNatClampNeg (0 : Int32).toNatClampNeg (48 : Int32).toNatClampNeg)) fun x1 =>
  q_let (q_up x1 10 (va_cpy (x1 4) (x1 10) (0 : Int32).toNatClampNeg (0 : Int32).toNatClampNeg (5 : Int32).toNatClampNeg)) fun x2 =>
  q_b1 (f_J7_fill_53178__X3_left x2 (0 : Int32)) fun x3 =>
  q_let (q_up x3 13 (fun _ => (x3 6 0))) fun x5 =>
  q_let (q_up x5 14 (fun _ => (x5 7 0))) fun x6 =>
  q_let (q_up x6 15 (fun _ => (1 : Int32))) fun x7 =>
  some x7
def f_X3_setPower (x : IS) (a1 : Int32) (a2 : Int32) : Option (IS) :=
  q_b1 (f_X3_has x a1) fun r1 =>
  if r1 = 0 then
    some x
  else
    q_gd (q_in a1 48) (
    q_let (q_up x 8 (upd (x 8) a1.toNatClampNeg a2)) fun x6 =>
    q_let (q_up x6 15 (fun _ => (1 : Int32))) fun x7 =>
    some x7)
def f_X3_setLeft (x : IS) (a1 : Int32) (a2 : Int32) : Option (IS) :=
  q_b1 (f_X3_has x a1) fun r1 =>
  if r1 = 0 then
    some x
  else
    q_gd (q_in a1 48) (
    q_let (q_up x 9 (upd (x 9) a1.toNatClampNeg a2)) fun x6 =>
    q_let (q_up x6 15 (fun _ => (1 : Int32))) fun x7 =>
    some x7)
def f_X6_isLook (a1 : Int32) (a2 : Int32) : Option (Int32) :=
  if a1 < 0 then
    some (0 : Int32)
  else
    if (4 : Int32) < a1 then
      some (0 : Int32)
    else
      q_gd (q_in a1 5) (
      if a2 < (q_LL a1.toNatClampNeg) then
        some (0 : Int32)
      else
        q_gd (q_in a1 5) (
        if (q_LM a1.toNatClampNeg) < a2 then
          some (0 : Int32)
        else
          some (1 : Int32)))
def f_X3_setLook (x : IS) (a1 : Int32) (a2 : Int32) : Option (IS) :=
  q_b1 (f_X6_isLook a1 a2) fun r1 =>
  if r1 = 0 then
    some x
  else
    q_gd (q_in a1 5) (
    q_let (q_up x 10 (upd (x 10) a1.toNatClampNeg a2)) fun x6 =>
    q_let (q_up x6 15 (fun _ => (1 : Int32))) fun x7 =>
    some x7)
def f_X3_setMode (x : IS) (a1 : Int32) : Option (IS) :=
  q_let (q_up x 14 (fun _ => a1)) fun x1 =>
  q_let (q_up x1 15 (fun _ => (1 : Int32))) fun x2 =>
  some x2
def f_X3_slideOn (x : IS) (a1 : Int32) : Option (IS) :=
  q_let (((x 13 0) - (1 : Int32))) fun v1 =>
  q_b1 (f_X3_has x v1) fun r2 =>
  if r2 = 0 then
    some x
  else
    q_gd (¬ (1 : Int32) < 0 ∧ ¬ (0 : Int32) < 0 ∧ ¬ v1 < 0 ∧ (1 : Int32).toNatClampNeg + v1.toNatClampNeg ≤ 48 ∧ (0 : Int32).toNatClampNeg + v1.toNatClampNeg ≤ 48) (
    q_let (q_up x 8 (va_cpy (x 8) (x 8) (1 : Int32).toNatClampNeg (0 : Int32).toNatClampNeg v1.toNatClampNeg)) fun x6 =>
    q_gd (¬ (1 : Int32) < 0 ∧ ¬ (0 : Int32) < 0 ∧ ¬ v1 < 0 ∧ (1 : Int32).toNatClampNeg + v1.toNatClampNeg ≤ 48 ∧ (0 : Int32).toNatClampNeg + v1.toNatClampNeg ≤ 48) (
    q_let (q_up x6 9 (va_cpy (x6 9) (x6 9) (1 : Int32).toNatClampNeg (0 : Int32).toNatClampNeg v1.toNatClampNeg)) fun x8 =>
    q_gd (q_in v1 48) (
    q_let (q_up x8 8 (upd (x8 8) v1.toNatClampNeg a1)) fun x11 =>
    q_gd (q_in v1 48) (
    q_let (q_up x11 9 (upd (x11 9) v1.toNatClampNeg (0 : Int32))) fun x13 =>
    q_let (q_up x13 15 (fun _ => (1 : Int32))) fun x14 =>
    some x14))))
def f_X3_slideBack (x : IS) (a1 : Int32) (a2 : Int32) : Option (IS) :=
  q_let (((x 13 0) - (1 : Int32))) fun v1 =>
  q_b1 (f_X3_has x v1) fun r2 =>
  if r2 = 0 then
    some x
  else
    q_gd (¬ (0 : Int32) < 0 ∧ ¬ (1 : Int32) < 0 ∧ ¬ v1 < 0 ∧ (0 : Int32).toNatClampNeg + v1.toNatClampNeg ≤ 48 ∧ (1 : Int32).toNatClampNeg + v1.toNatClampNeg ≤ 48) (
    q_let (q_up x 8 (va_cpy (x 8) (x 8) (0 : Int32).toNatClampNeg (1 : Int32).toNatClampNeg v1.toNatClampNeg)) fun x6 =>
    q_gd (¬ (0 : Int32) < 0 ∧ ¬ (1 : Int32) < 0 ∧ ¬ v1 < 0 ∧ (0 : Int32).toNatClampNeg + v1.toNatClampNeg ≤ 48 ∧ (1 : Int32).toNatClampNeg + v1.toNatClampNeg ≤ 48) (
    q_let (q_up x6 9 (va_cpy (x6 9) (x6 9) (0 : Int32).toNatClampNeg (1 : Int32).toNatClampNeg v1.toNatClampNeg)) fun x8 =>
    q_let (q_up x8 8 (upd (x8 8) (0 : Int32).toNatClampNeg a1)) fun x10 =>
    q_let (q_up x10 9 (upd (x10 9) (0 : Int32).toNatClampNeg a2)) fun x11 =>
    q_let (q_up x11 15 (fun _ => (1 : Int32))) fun x12 =>
    some x12))
def f_X3_takeBack (x : IS) (a1 : Int32) (a2 : Int32) (a3 : Int32) : Option (IS) :=
  if a1 = 0 then
    q_b1 (f_X3_setPower x a2 a3) fun x13 =>
    some x13
  else
  if a1 = 1 then
    q_b1 (f_X3_setLeft x a2 a3) fun x11 =>
    some x11
  else
  if a1 = 2 then
    q_b1 (f_X3_setLook x a2 a3) fun x9 =>
    some x9
  else
  if a1 = 3 then
    q_b1 (f_X3_setMode x a3) fun x7 =>
    some x7
  else
  q_b1 (f_X3_slideBack x a3 a2) fun x1 =>
  some x1
def f_X3_howManyLeft_L4F (x : IS) (k : Int32 → Option (Int32)) (go : Int32 → Int32 → Option (Int32)) (v1 : Int32) (v2 : Int32) : Option (Int32) :=
  if (x 13 0) ≤ v2 then
    k v1
  else
    if (48 : Int32) ≤ v2 then
      k v1
    else
      q_gd (q_in v2 48) (
      q_let ((v1 + (x 9 v2.toNatClampNeg))) fun v7 =>
      q_let (v2 + 1) fun v8 =>
      go v7 v8)
def f_X3_howManyLeft_L4 (x : IS) (k : Int32 → Option (Int32)) : Nat → Int32 → Int32 → Option (Int32)
  | 0 => fun _ _ => none
  | n + 1 => f_X3_howManyLeft_L4F x k (f_X3_howManyLeft_L4 x k n)
def f_X3_howManyLeft (x : IS) : Option (Int32) :=
  f_X3_howManyLeft_L4 x (fun e3 =>
      some e3) 1000 (0 : Int32) (0 : Int32)
def f_X3_alarmsWithout (x : IS) (a1 : Int32) (a2 : Int32) : Option (Int32 × IS) :=
  q_b2 (f_X3_floorOf x a1 a2) fun r1 x2 =>
  q_b1 (f_X3_outdoes x2 a1 r1 (x2 10 (3 : Int32).toNatClampNeg)) fun r5 =>
  some (r5, x2)
def f_X4_append (x : IS) (a1 : Int32) : Option (IS) :=
  if (200 : Int32) ≤ (x 2 0) then
    some x
  else
    q_gd (q_in (x 2 0) 200) (
    q_let (q_up x 0 (upd (x 0) (x 2 0).toNatClampNeg a1)) fun x3 =>
    q_let (q_up x3 2 (fun _ => ((x3 2 0) + (1 : Int32)))) fun x4 =>
    some x4)
def f_X5_startAnew (x : IS) : Option (IS) :=
  q_let (q_up x 6 (fun _ => (0 : Int32))) fun x1 =>
  q_let (q_up x1 7 (fun _ => (0 : Int32))) fun x2 =>
  q_let (q_up x2 4 (va_cpy q_LW (x2 4) (0 : Int32).toNatClampNeg (0 : Int32).toNatClampNeg (5 : Int32).toNatClampNeg)) fun x3 =>
  q_let (q_up x3 5 (va_cpy q_DW (x3 5) (0 : Int32).toNatClampNeg (0 : Int32).toNatClampNeg (8 : Int32).toNatClampNeg)) fun x4 =>
  some x4
def f_X4_endOfItem_L2F (x : IS) (k : Option (Int32)) (go : Int32 → Option (Int32)) (v1 : Int32) : Option (Int32) :=
  if (x 2 0) ≤ v1 then
    k
  else
    q_gd (q_in v1 200) (
    if (x 0 v1.toNatClampNeg) = (59 : Int32) then
      some v1
    else
      q_let (v1 + 1) fun v5 =>
      go v5)
def f_X4_endOfItem_L2 (x : IS) (k : Option (Int32)) : Nat → Int32 → Option (Int32)
  | 0 => fun _ => none
  | n + 1 => f_X4_endOfItem_L2F x k (f_X4_endOfItem_L2 x k n)
def f_X4_endOfItem (x : IS) (a1 : Int32) : Option (Int32) :=
  f_X4_endOfItem_L2 x (
      some (-4 : Int32)) 1000 a1
def f_X4_stands_L27F (wi : Nat) (x : IS) (a2 : Int32) (k : Option (Int32)) (go : Int32 → Option (Int32)) (v7 : Int32) : Option (Int32) :=
  q_b1 (q_slen wi) fun r8 =>
  if r8 ≤ v7 then
    k
  else
    q_gd (q_in (a2 + v7) 200) (
    q_b1 (q_sch wi v7) fun r13 =>
    if (x 0 (a2 + v7).toNatClampNeg) = r13 then
      q_let (v7 + 1) fun v17 =>
      go v17
    else
      some (0 : Int32))
def f_X4_stands_L27 (wi : Nat) (x : IS) (a2 : Int32) (k : Option (Int32)) : Nat → Int32 → Option (Int32)
  | 0 => fun _ => none
  | n + 1 => f_X4_stands_L27F wi x a2 k (f_X4_stands_L27 wi x a2 k n)
def f_X4_stands (x : IS) (wi : Nat) (a2 : Int32) (a3 : Int32) : Option (Int32) :=
  if a2 < 0 then
    some (0 : Int32)
  else
    if (x 2 0) < a3 then
      some (0 : Int32)
    else
      q_b1 (q_slen wi) fun r3 =>
      if (a3 - a2) = r3 then
        f_X4_stands_L27 wi x a2 (
            some (1 : Int32)) 1000 (0 : Int32)
      else
        some (0 : Int32)
def f_X4_readMode (x : IS) (a1 : Int32) (a2 : Int32) : Option (Int32 × IS) :=
  q_b1 (f_X4_stands x 4 a1 a2) fun r1 =>
  if r1 = 0 then
    q_b1 (f_X4_stands x 5 a1 a2) fun r5 =>
    if r5 = 0 then
      q_b1 (f_X4_stands x 6 a1 a2) fun r9 =>
      if r9 = 0 then
        some ((0 : Int32), x)
      else
        q_let (q_up x 7 (fun _ => (2 : Int32))) fun x13 =>
        some ((1 : Int32), x13)
    else
      q_let (q_up x 7 (fun _ => (1 : Int32))) fun x14 =>
      some ((1 : Int32), x14)
  else
    q_let (q_up x 7 (fun _ => (0 : Int32))) fun x15 =>
    some ((1 : Int32), x15)
def f_X4_readNumbers_L11F (a2 : Int32) (k : Int32 → IS → Option (Int32 × IS)) (go : Int32 → Int32 → Int32 → Int32 → IS → Option (Int32 × IS)) (v1 : Int32) (v2 : Int32) (v3 : Int32) (v4 : Int32) (x6 : IS) : Option (Int32 × IS) :=
  if a2 < v4 then
    k v1 x6
  else
    if (x6 2 0) ≤ v4 then
      k v1 x6
    else
      q_gd (q_in v4 200) (
      q_let ((x6 0 v4.toNatClampNeg)) fun v11 =>
      q_jn (fun (v24 : Int32) (v25 : Int32) (v26 : Int32) (x27 : IS) =>
        q_let (v4 + 1) fun v28 =>
        go v24 v25 v26 v28 x27) fun J122 =>
      q_jn (
        q_jn (
          if v2 ≤ 0 then
            some ((-4 : Int32), x6)
          else
            if (48 : Int32) ≤ v1 then
              some ((-4 : Int32), x6)
            else
              q_gd (q_in v1 48) (
              q_let (q_up x6 1 (upd (x6 1) v1.toNatClampNeg v3)) fun x22 =>
              q_let (v1 + 1) fun v23 =>
              J122 v23 (0 : Int32) (0 : Int32) x22)) fun J88 =>
        if v11 = (44 : Int32) then
          J88
        else
          if v11 = (59 : Int32) then
            J88
          else
            some ((-4 : Int32), x6)) fun J74 =>
      if v11 < (48 : Int32) then
        J74
      else
        if (57 : Int32) < v11 then
          J74
        else
          if (2 : Int32) ≤ v2 then
            J74
          else
            q_let ((((v3 * (10 : Int32)) + v11) - (48 : Int32))) fun v15 =>
            q_let (v2 + 1) fun v16 =>
            J122 v1 v16 v15 x6)
def f_X4_readNumbers_L11 (a2 : Int32) (k : Int32 → IS → Option (Int32 × IS)) : Nat → Int32 → Int32 → Int32 → Int32 → IS → Option (Int32 × IS)
  | 0 => fun _ _ _ _ _ => none
  | n + 1 => f_X4_readNumbers_L11F a2 k (f_X4_readNumbers_L11 a2 k n)
def f_X4_readNumbers (x : IS) (a1 : Int32) (a2 : Int32) : Option (Int32 × IS) :=
  f_X4_readNumbers_L11 a2 (fun e5 x7 =>
      some (e5, x7)) 1000 (0 : Int32) (0 : Int32) (0 : Int32) a1 x
def f_X5_addCells (x : IS) (a2 : Int32) : Option (Int32 × IS) :=
  if a2 < (1 : Int32) then
    some ((0 : Int32), x)
  else
    if (48 : Int32) < a2 then
      some ((0 : Int32), x)
    else
      if ((x 6 0) + a2) ≤ (48 : Int32) then
        q_gd (¬ (0 : Int32) < 0 ∧ ¬ (x 6 0) < 0 ∧ ¬ a2 < 0 ∧ (0 : Int32).toNatClampNeg + a2.toNatClampNeg ≤ 48 ∧ (x 6 0).toNatClampNeg + a2.toNatClampNeg ≤ 48) (
        q_let (q_up x 3 (va_cpy (x 1) (x 3) (0 : Int32).toNatClampNeg (x 6 0).toNatClampNeg a2.toNatClampNeg)) fun x4 =>
        q_let (q_up x4 6 (fun _ => ((x4 6 0) + a2))) fun x6 =>
        some ((1 : Int32), x6))
      else
        some ((0 : Int32), x)
def f_X5_setLookTo_L19F (a2 : Int32) (k : IS → Option (Int32 × IS)) (go : Int32 → IS → Option (Int32 × IS)) (v3 : Int32) (x4 : IS) : Option (Int32 × IS) :=
  if a2 ≤ v3 then
    k x4
  else
    q_gd (q_in v3 48) (
    q_b1 (f_X6_isLook v3 (x4 1 v3.toNatClampNeg)) fun r8 =>
    if r8 = 0 then
      some ((0 : Int32), x4)
    else
      q_let (v3 + 1) fun v12 =>
      go v12 x4)
def f_X5_setLookTo_L19 (a2 : Int32) (k : IS → Option (Int32 × IS)) : Nat → Int32 → IS → Option (Int32 × IS)
  | 0 => fun _ _ => none
  | n + 1 => f_X5_setLookTo_L19F a2 k (f_X5_setLookTo_L19 a2 k n)
def f_X5_setLookTo (x : IS) (a2 : Int32) : Option (Int32 × IS) :=
  if a2 = (5 : Int32) then
    if a2 ≤ (48 : Int32) then
      f_X5_setLookTo_L19 a2 (fun x5 =>
          q_gd (¬ (0 : Int32) < 0 ∧ ¬ (0 : Int32) < 0 ∧ ¬ a2 < 0 ∧ (0 : Int32).toNatClampNeg + a2.toNatClampNeg ≤ 48 ∧ (0 : Int32).toNatClampNeg + a2.toNatClampNeg ≤ 5) (
          q_let (q_up x5 4 (va_cpy (x5 1) (x5 4) (0 : Int32).toNatClampNeg (0 : Int32).toNatClampNeg a2.toNatClampNeg)) fun x13 =>
          some ((1 : Int32), x13))) 1000 (0 : Int32) x
    else
      some ((0 : Int32), x)
  else
    some ((0 : Int32), x)
def f_J7_fill_53178__X5_weights_L5F (a2 : Int32) (k : IS → Option (IS)) (go : Int32 → IS → Option (IS)) (v1 : Int32) (x2 : IS) : Option (IS) :=
  if (8 : Int32) ≤ v1 then
    k x2
  else
    q_gd (q_in v1 8) (
    q_let (q_up x2 5 (upd (x2 5) v1.toNatClampNeg a2)) fun x6 =>
    q_let (v1 + 1) fun v7 =>
    go v7 x6)
def f_J7_fill_53178__X5_weights_L5 (a2 : Int32) (k : IS → Option (IS)) : Nat → Int32 → IS → Option (IS)
  | 0 => fun _ _ => none
  | n + 1 => f_J7_fill_53178__X5_weights_L5F a2 k (f_J7_fill_53178__X5_weights_L5 a2 k n)
def f_J7_fill_53178__X5_weights (x : IS) (a2 : Int32) : Option (IS) :=
  f_J7_fill_53178__X5_weights_L5 a2 (fun x3 =>
      some x3) 1000 (0 : Int32) x
def f_X5_setWeightsTo_L24F (a2 : Int32) (k : Int32 → IS → Option (Int32 × IS)) (go : Int32 → Int32 → IS → Option (Int32 × IS)) (v4 : Int32) (v5 : Int32) (x7 : IS) : Option (Int32 × IS) :=
  if a2 ≤ v5 then
    k v4 x7
  else
    q_gd (q_in v5 48) (
    q_let ((v4 + (x7 1 v5.toNatClampNeg))) fun v11 =>
    q_let (v5 + 1) fun v12 =>
    go v11 v12 x7)
def f_X5_setWeightsTo_L24 (a2 : Int32) (k : Int32 → IS → Option (Int32 × IS)) : Nat → Int32 → Int32 → IS → Option (Int32 × IS)
  | 0 => fun _ _ _ => none
  | n + 1 => f_X5_setWeightsTo_L24F a2 k (f_X5_setWeightsTo_L24 a2 k n)
def f_X5_setWeightsTo (x : IS) (a2 : Int32) : Option (Int32 × IS) :=
  if a2 < (2 : Int32) then
    some ((0 : Int32), x)
  else
    if (8 : Int32) < a2 then
      some ((0 : Int32), x)
    else
      if a2 ≤ (48 : Int32) then
        f_X5_setWeightsTo_L24 a2 (fun e6 x8 =>
            if e6 < (1 : Int32) then
              some ((0 : Int32), x8)
            else
              if e6 ≤ (16 : Int32) then
                q_b1 (f_J7_fill_53178__X5_weights x8 (0 : Int32)) fun x15 =>
                q_gd (¬ (0 : Int32) < 0 ∧ ¬ (0 : Int32) < 0 ∧ ¬ a2 < 0 ∧ (0 : Int32).toNatClampNeg + a2.toNatClampNeg ≤ 48 ∧ (0 : Int32).toNatClampNeg + a2.toNatClampNeg ≤ 8) (
                q_let (q_up x15 5 (va_cpy (x15 1) (x15 5) (0 : Int32).toNatClampNeg (0 : Int32).toNatClampNeg a2.toNatClampNeg)) fun x17 =>
                some ((1 : Int32), x17))
              else
                some ((0 : Int32), x8)) 1000 (0 : Int32) (0 : Int32) x
      else
        some ((0 : Int32), x)
def f_X4_readItem (x : IS) (a1 : Int32) (a2 : Int32) : Option (Int32 × IS) :=
  q_let ((a1 + (5 : Int32))) fun v1 =>
  q_b1 (f_X4_stands x 0 a1 v1) fun r2 =>
  if r2 = 0 then
    q_b1 (f_X4_stands x 1 a1 v1) fun r6 =>
    if r6 = 0 then
      q_b1 (f_X4_stands x 2 a1 v1) fun r10 =>
      if r10 = 0 then
        q_b1 (f_X4_stands x 3 a1 v1) fun r14 =>
        if r14 = 0 then
          some ((0 : Int32), x)
        else
          q_b2 (f_X4_readNumbers x v1 a2) fun r18 x19 =>
          q_b2 (f_X5_setWeightsTo x19 r18) fun r22 x23 =>
          some (r22, x23)
      else
        q_b2 (f_X4_readNumbers x v1 a2) fun r26 x27 =>
        q_b2 (f_X5_setLookTo x27 r26) fun r30 x31 =>
        some (r30, x31)
    else
      q_b2 (f_X4_readNumbers x v1 a2) fun r34 x35 =>
      q_b2 (f_X5_addCells x35 r34) fun r38 x39 =>
      some (r38, x39)
  else
    q_b2 (f_X4_readMode x v1 a2) fun r42 x43 =>
    some (r42, x43)
def f_X4_readInto_L8F (k : IS → Option (Int32 × IS)) (go : Int32 → Int32 → IS → Option (Int32 × IS)) (v3 : Int32) (v4 : Int32) (x5 : IS) : Option (Int32 × IS) :=
  if (200 : Int32) ≤ v4 then
    k x5
  else
    if (x5 2 0) ≤ v3 then
      k x5
    else
      q_b1 (f_X4_endOfItem x5 v3) fun r9 =>
      if r9 = (-4 : Int32) then
        some (v3, x5)
      else
        q_b2 (f_X4_readItem x5 v3 r9) fun r13 x14 =>
        if r13 = 0 then
          some (v3, x14)
        else
          q_let ((r9 + (1 : Int32))) fun v18 =>
          q_let (v4 + 1) fun v19 =>
          go v18 v19 x14
def f_X4_readInto_L8 (k : IS → Option (Int32 × IS)) : Nat → Int32 → Int32 → IS → Option (Int32 × IS)
  | 0 => fun _ _ _ => none
  | n + 1 => f_X4_readInto_L8F k (f_X4_readInto_L8 k n)
def f_X4_readInto (x : IS) : Option (Int32 × IS) :=
  q_b1 (f_X5_startAnew x) fun x1 =>
  f_X4_readInto_L8 (fun x6 =>
      some ((-4 : Int32), x6)) 1000 (0 : Int32) (0 : Int32) x1
def f_X6_write (x : IS) (a1 : Int32) : Option (Int32 × IS) :=
  if a1 < (32 : Int32) then
    some ((-1 : Int32), x)
  else
    if a1 ≤ (126 : Int32) then
      if (x 2 0) < (200 : Int32) then
        q_b1 (f_X4_append x a1) fun x4 =>
        some ((x4 2 0), x4)
      else
        some ((-3 : Int32), x)
    else
      some ((-1 : Int32), x)
def f_X6_wipe (x : IS) : Option (Int32 × IS) :=
  q_let ((x 2 0)) fun v1 =>
  q_let (q_up x 2 (fun _ => (0 : Int32))) fun x2 =>
  some (v1, x2)
def f_X6_fault (x : IS) : Option (Int32 × IS) :=
  q_b2 (f_X4_readInto x) fun r1 x2 =>
  some (r1, x2)
def f_X6_layWhatIsTold (x : IS) : Option (IS) :=
  q_b1 (f_X3_take x) fun x1 =>
  q_b1 (f_X1_take x1) fun x3 =>
  q_let (q_up x3 28 (fun _ => (0 : Int32))) fun x5 =>
  some x5
def f_X6_lay (x : IS) : Option (Int32 × IS) :=
  q_b2 (f_X4_readInto x) fun r1 x2 =>
  if r1 = (-4 : Int32) then
    if (x2 6 0) = 0 then
      some ((-2 : Int32), x2)
    else
      q_b1 (f_X6_layWhatIsTold x2) fun x7 =>
      some ((x7 13 0), x7)
  else
    some ((-2 : Int32), x2)
def f_X6_isPower (a1 : Int32) : Option (Int32) :=
  if a1 < 0 then
    some (0 : Int32)
  else
    if (99 : Int32) < a1 then
      some (0 : Int32)
    else
      some (1 : Int32)
def f_X6_power (x : IS) (a1 : Int32) (a2 : Int32) : Option (Int32 × IS) :=
  q_b1 (f_X3_has x a1) fun r1 =>
  if r1 = 0 then
    some ((-1 : Int32), x)
  else
    q_b1 (f_X6_isPower a2) fun r5 =>
    if r5 = 0 then
      some ((-1 : Int32), x)
    else
      q_gd (q_in a1 48) (
      q_let ((x 8 a1.toNatClampNeg)) fun v10 =>
      if v10 = a2 then
        some ((-2 : Int32), x)
      else
        q_b1 (f_X2_keep x (0 : Int32) a1 v10) fun x12 =>
        q_b1 (f_X3_setPower x12 a1 a2) fun x14 =>
        some (v10, x14))
def f_X6_leave (x : IS) (a1 : Int32) (a2 : Int32) : Option (Int32 × IS) :=
  q_b1 (f_X3_has x a1) fun r1 =>
  if r1 = 0 then
    some ((-1 : Int32), x)
  else
    if a2 < 0 then
      some ((-1 : Int32), x)
    else
      if a2 ≤ (1 : Int32) then
        q_gd (q_in a1 48) (
        q_let ((x 9 a1.toNatClampNeg)) fun v8 =>
        if v8 = a2 then
          some ((-2 : Int32), x)
        else
          q_b1 (f_X2_keep x (1 : Int32) a1 v8) fun x10 =>
          q_b1 (f_X3_setLeft x10 a1 a2) fun x12 =>
          q_b1 (f_X3_howManyLeft x12) fun r14 =>
          some (r14, x12))
      else
        some ((-1 : Int32), x)
def f_X6_look (x : IS) (a1 : Int32) (a2 : Int32) : Option (Int32 × IS) :=
  if a1 < 0 then
    some ((-1 : Int32), x)
  else
    if (4 : Int32) < a1 then
      some ((-1 : Int32), x)
    else
      q_b1 (f_X6_isLook a1 a2) fun r3 =>
      if r3 = 0 then
        some ((-1 : Int32), x)
      else
        q_gd (q_in a1 5) (
        q_let ((x 10 a1.toNatClampNeg)) fun v8 =>
        if v8 = a2 then
          some ((-2 : Int32), x)
        else
          q_b1 (f_X2_keep x (2 : Int32) a1 v8) fun x10 =>
          q_b1 (f_X3_setLook x10 a1 a2) fun x12 =>
          some (v8, x12))
def f_X6_mode (x : IS) (a1 : Int32) : Option (Int32 × IS) :=
  if a1 < 0 then
    some ((-1 : Int32), x)
  else
    if a1 ≤ (2 : Int32) then
      q_let ((x 14 0)) fun v3 =>
      if v3 = a1 then
        some ((-2 : Int32), x)
      else
        q_b1 (f_X2_keep x (3 : Int32) (0 : Int32) v3) fun x5 =>
        q_b1 (f_X3_setMode x5 a1) fun x7 =>
        some (v3, x7)
    else
      some ((-1 : Int32), x)
def f_X6_slide (x : IS) (a1 : Int32) : Option (Int32 × IS) :=
  q_b1 (f_X6_isPower a1) fun r1 =>
  if r1 = 0 then
    some ((-1 : Int32), x)
  else
    q_let ((x 8 (0 : Int32).toNatClampNeg)) fun v5 =>
    q_b1 (f_X2_keep x (4 : Int32) (x 9 (0 : Int32).toNatClampNeg) v5) fun x6 =>
    q_b1 (f_X3_slideOn x6 a1) fun x8 =>
    some (v5, x8)
def f_X6_undo (x : IS) : Option (Int32 × IS) :=
  if 0 < (x 28 0) then
    q_let (q_up x 28 (fun _ => ((x 28 0) - (1 : Int32)))) fun x2 =>
    q_gd (q_in (x2 28 0) 6) (
    q_gd (q_in (x2 28 0) 6) (
    q_gd (q_in (x2 28 0) 6) (
    q_b1 (f_X3_takeBack x2 (x2 25 (x2 28 0).toNatClampNeg) (x2 26 (x2 28 0).toNatClampNeg) (x2 27 (x2 28 0).toNatClampNeg)) fun x6 =>
    some ((x6 28 0), x6))))
  else
    some ((-2 : Int32), x)
def f_X6_cell (x : IS) (a1 : Int32) (a2 : Int32) : Option (Int32 × IS) :=
  q_b1 (f_X3_has x a1) fun r1 =>
  if r1 = 0 then
    some ((-1 : Int32), x)
  else
    if a2 = 0 then
      q_gd (q_in a1 48) (
      some ((x 8 a1.toNatClampNeg), x))
    else
    if a2 = 1 then
      q_gd (q_in a1 48) (
      some ((x 9 a1.toNatClampNeg), x))
    else
    if a2 = 2 then
      q_b2 (f_X3_gather x a1 (0 : Int32) (-4 : Int32)) fun r28 x29 =>
      some (r28, x29)
    else
    if a2 = 3 then
      q_b2 (f_X3_gather x a1 (1 : Int32) (-4 : Int32)) fun r24 x25 =>
      some (r24, x25)
    else
    if a2 = 4 then
      q_b2 (f_X3_floorOf x a1 (-4 : Int32)) fun r20 x21 =>
      some (r20, x21)
    else
    if a2 = 5 then
      q_b2 (f_X3_alarmsWithout x a1 (-4 : Int32)) fun r15 x16 =>
      if r15 = 0 then
        some ((0 : Int32), x16)
      else
        some ((1 : Int32), x16)
    else
    if a2 = 6 then
      q_b1 (f_X0_settle x) fun x12 =>
      q_gd (q_in a1 48) (
      some ((x12 17 a1.toNatClampNeg), x12))
    else
    some ((-1 : Int32), x)
def f_X6_ranked (x : IS) (a1 : Int32) (a2 : Int32) (a3 : Int32) : Option (Int32 × IS) :=
  q_b1 (f_X3_has x a1) fun r1 =>
  if r1 = 0 then
    some ((-1 : Int32), x)
  else
    if a2 < 0 then
      some ((-1 : Int32), x)
    else
      if (2 : Int32) < a2 then
        some ((-1 : Int32), x)
      else
        if (1 : Int32) ≤ a3 then
          q_b2 (f_X3_gather x a1 a2 (-4 : Int32)) fun r8 x9 =>
          if r8 < a3 then
            some ((-4 : Int32), x9)
          else
            if a3 ≤ (12 : Int32) then
              q_gd (q_in (a3 - (1 : Int32)) 12) (
              some ((x9 11 (a3 - (1 : Int32)).toNatClampNeg), x9))
            else
              some ((-4 : Int32), x9)
        else
          some ((-1 : Int32), x)
def f_X6_hides_L84F (a1 : Int32) (a2 : Int32) (k : Int32 → IS → Option (Int32 × IS)) (go : Int32 → Int32 → IS → Option (Int32 × IS)) (v18 : Int32) (v19 : Int32) (x21 : IS) : Option (Int32 × IS) :=
  if (x21 13 0) ≤ v19 then
    k v18 x21
  else
    if (48 : Int32) ≤ v19 then
      k v18 x21
    else
      q_jn (fun (t28 : Int32) =>
        q_jn (fun (v38 : Int32) (x39 : IS) =>
          q_let (v19 + 1) fun v40 =>
          go v38 v40 x39) fun J163 =>
        if t28 = 0 then
          J163 v18 x21
        else
          q_gd (q_in v19 48) (
          if (x21 17 v19.toNatClampNeg) = (-4 : Int32) then
            q_b2 (f_X3_alarmsWithout x21 v19 a1) fun r32 x33 =>
            if r32 = 0 then
              J163 v18 x33
            else
              q_let (v18 + 1) fun v37 =>
              J163 v37 x33
          else
            J163 v18 x21)) fun J125 =>
      q_jn (
        J125 (0 : Int32)) fun J124 =>
      if v19 = a1 then
        J124
      else
        q_jn (
          J125 (1 : Int32)) fun J120 =>
        if a2 = (-1 : Int32) then
          J120
        else
          if a2 = v19 then
            J120
          else
            J124
def f_X6_hides_L84 (a1 : Int32) (a2 : Int32) (k : Int32 → IS → Option (Int32 × IS)) : Nat → Int32 → Int32 → IS → Option (Int32 × IS)
  | 0 => fun _ _ _ => none
  | n + 1 => f_X6_hides_L84F a1 a2 k (f_X6_hides_L84 a1 a2 k n)
def f_X6_hides (x : IS) (a1 : Int32) (a2 : Int32) : Option (Int32 × IS) :=
  q_b1 (f_X3_has x a1) fun r1 =>
  if r1 = 0 then
    some ((-1 : Int32), x)
  else
    if a1 = a2 then
      some ((-1 : Int32), x)
    else
      q_jn (
        q_gd (q_in a1 48) (
        if (x 9 a1.toNatClampNeg) = (1 : Int32) then
          some ((-2 : Int32), x)
        else
          q_jn (
            q_b1 (f_X0_settle x) fun x16 =>
            f_X6_hides_L84 a1 a2 (fun e20 x22 =>
                some (e20, x22)) 1000 (0 : Int32) (0 : Int32) x16) fun J68 =>
          if a2 = (-1 : Int32) then
            J68
          else
            q_gd (q_in a2 48) (
            if (x 9 a2.toNatClampNeg) = (1 : Int32) then
              some ((-2 : Int32), x)
            else
              J68))) fun J34 =>
      if a2 = (-1 : Int32) then
        J34
      else
        q_b1 (f_X3_has x a2) fun r7 =>
        if r7 = 0 then
          some ((-1 : Int32), x)
        else
          J34
def f_X6_bunch (x : IS) (a1 : Int32) (a2 : Int32) : Option (Int32 × IS) :=
  if a1 < (-1 : Int32) then
    some ((-1 : Int32), x)
  else
    if a2 < 0 then
      some ((-1 : Int32), x)
    else
      if a2 ≤ (2 : Int32) then
        q_b1 (f_X0_settle x) fun x4 =>
        if a1 = (-1 : Int32) then
          some ((x4 22 0), x4)
        else
          if (x4 22 0) ≤ a1 then
            some ((-4 : Int32), x4)
          else
            if a1 < (48 : Int32) then
              if a2 = 0 then
                q_gd (q_in a1 48) (
                some ((x4 18 a1.toNatClampNeg), x4))
              else
                if a2 = (1 : Int32) then
                  q_gd (q_in a1 48) (
                  some ((x4 19 a1.toNatClampNeg), x4))
                else
                  q_gd (q_in a1 48) (
                  some ((x4 20 a1.toNatClampNeg), x4))
            else
              some ((-4 : Int32), x4)
      else
        some ((-1 : Int32), x)
def f_X6_enough_L25F (a1 : Int32) (k : IS → Option (Int32 × IS)) (go : Int32 → IS → Option (Int32 × IS)) (v5 : Int32) (x6 : IS) : Option (Int32 × IS) :=
  if (40 : Int32) < v5 then
    k x6
  else
    q_b1 (f_X0_howManyBy x6 v5) fun r9 =>
    if a1 < r9 then
      q_let (v5 + 1) fun v13 =>
      go v13 x6
    else
      some (v5, x6)
def f_X6_enough_L25 (a1 : Int32) (k : IS → Option (Int32 × IS)) : Nat → Int32 → IS → Option (Int32 × IS)
  | 0 => fun _ _ => none
  | n + 1 => f_X6_enough_L25F a1 k (f_X6_enough_L25 a1 k n)
def f_X6_enough (x : IS) (a1 : Int32) : Option (Int32 × IS) :=
  if a1 < 0 then
    some ((-1 : Int32), x)
  else
    if a1 ≤ (48 : Int32) then
      q_b1 (f_X0_settle x) fun x3 =>
      f_X6_enough_L25 a1 (fun x7 =>
          some ((-4 : Int32), x7)) 1000 (1 : Int32) x3
    else
      some ((-1 : Int32), x)
def f_X6_noise (x : IS) (a1 : Int32) : Option (Int32) :=
  q_b1 (f_X6_isPower a1) fun r1 =>
  if r1 = 0 then
    some (-1 : Int32)
  else
    if (8 : Int32) ≤ a1 then
      some (0 : Int32)
    else
      q_gd (q_in a1 8) (
      some (x 23 a1.toNatClampNeg))
def f_X6_commonDivisor_L9F (k : Int64 → Option (Int64)) (go : Int64 → Int64 → Int32 → Option (Int64)) (v1 : Int64) (v2 : Int64) (v3 : Int32) : Option (Int64) :=
  if (200 : Int32) ≤ v3 then
    k v1
  else
    if (lg_cmp v2 (0 : Int64)) = 0 then
      k v1
    else
      q_gd (¬ v2 = 0) (
      q_let ((v1 - v1 / v2 * v2)) fun v8 =>
      q_let (v3 + 1) fun v9 =>
      go v2 v8 v9)
def f_X6_commonDivisor_L9 (k : Int64 → Option (Int64)) : Nat → Int64 → Int64 → Int32 → Option (Int64)
  | 0 => fun _ _ _ => none
  | n + 1 => f_X6_commonDivisor_L9F k (f_X6_commonDivisor_L9 k n)
def f_X6_commonDivisor (a1 : Int64) (a2 : Int64) : Option (Int64) :=
  f_X6_commonDivisor_L9 (fun e4 =>
      some e4) 1000 a1 a2 (0 : Int32)
def f_X6_odds (x : IS) (j : JS) (a1 : Int32) : Option (Int64 × JS) :=
  if a1 < 0 then
    some ((-1 : Int64), j)
  else
    if a1 ≤ (1 : Int32) then
      q_b1 (f_X1_countFloors x j (x 14 0)) fun j3 =>
      q_b1 (f_X1_alarmWays x j3 (x 10 (3 : Int32).toNatClampNeg) (x 10 (4 : Int32).toNatClampNeg)) fun r5 =>
      q_b1 (f_X1_allWays x (x 10 (0 : Int32).toNatClampNeg)) fun r7 =>
      q_b1 (f_X6_commonDivisor r5 r7) fun r9 =>
      if 0 < (lg_cmp r9 (0 : Int64)) then
        if a1 = 0 then
          q_gd (¬ r9 = 0) (
          some ((r5 / r9), j3))
        else
          q_gd (¬ r9 = 0) (
          some ((r7 / r9), j3))
      else
        some ((-1 : Int64), j3)
    else
      some ((-1 : Int64), j)
def f_X6_productIsNoMore (a1 : Int64) (a2 : Int64) (a3 : Int64) (a4 : Int64) : Option (Int32) :=
  q_let ((((1 : Int64) <<< (((26 : Int32)).toInt64 &&& 63)) - (1 : Int64))) fun v1 =>
  q_let (((a1 &&& v1) * a2)) fun v2 =>
  q_let ((((a1 >>> (((26 : Int32)).toInt64 &&& 63)) * a2) + (v2 >>> (((26 : Int32)).toInt64 &&& 63)))) fun v3 =>
  q_let (((a3 &&& v1) * a4)) fun v4 =>
  q_let ((((a3 >>> (((26 : Int32)).toInt64 &&& 63)) * a4) + (v4 >>> (((26 : Int32)).toInt64 &&& 63)))) fun v5 =>
  if (lg_cmp v3 v5) = 0 then
    if 0 < (lg_cmp (v2 &&& v1) (v4 &&& v1)) then
      some (0 : Int32)
    else
      some (1 : Int32)
  else
    if 0 ≤ (lg_cmp v3 v5) then
      some (0 : Int32)
    else
      some (1 : Int32)
def f_X6_factor_L65F (x : IS) (a1 : Int32) (a2 : Int32) (r7 : Int64) (k : JS → Option (Int32 × JS)) (go : Int32 → JS → Option (Int32 × JS)) (v9 : Int32) (j10 : JS) : Option (Int32 × JS) :=
  if (40 : Int32) < v9 then
    k j10
  else
    q_b1 (f_X1_alarmWays x j10 v9 (x 10 (4 : Int32).toNatClampNeg)) fun r13 =>
    q_b1 (f_X6_productIsNoMore r13 (Int32.toInt64 a2) r7 (Int32.toInt64 a1)) fun r15 =>
    if r15 = 0 then
      q_let (v9 + 1) fun v19 =>
      go v19 j10
    else
      some (v9, j10)
def f_X6_factor_L65 (x : IS) (a1 : Int32) (a2 : Int32) (r7 : Int64) (k : JS → Option (Int32 × JS)) : Nat → Int32 → JS → Option (Int32 × JS)
  | 0 => fun _ _ => none
  | n + 1 => f_X6_factor_L65F x a1 a2 r7 k (f_X6_factor_L65 x a1 a2 r7 k n)
def f_X6_factor (x : IS) (j : JS) (a1 : Int32) (a2 : Int32) : Option (Int32 × JS) :=
  if a1 < (1 : Int32) then
    some ((-1 : Int32), j)
  else
    if (1000000 : Int32) < a1 then
      some ((-1 : Int32), j)
    else
      if a2 < (1 : Int32) then
        some ((-1 : Int32), j)
      else
        if a2 ≤ (1000000 : Int32) then
          q_b1 (f_X1_countFloors x j (x 14 0)) fun j5 =>
          q_b1 (f_X1_allWays x (x 10 (0 : Int32).toNatClampNeg)) fun r7 =>
          f_X6_factor_L65 x a1 a2 r7 (fun j11 =>
              some ((-4 : Int32), j11)) 1000 (1 : Int32) j5
        else
          some ((-1 : Int32), j)
def f_X6_figuresOf (a1 : Int32) : Option (Int32) :=
  if (10 : Int32) ≤ a1 then
    some (2 : Int32)
  else
    some (1 : Int32)
def f_X6_figureOf (a1 : Int32) (a2 : Int32) : Option (Int32) :=
  if a2 = 0 then
    some ((48 : Int32) + (a1 - a1 / (10 : Int32) * (10 : Int32)))
  else
    some ((48 : Int32) + (a1 / (10 : Int32)))
def f_X6_letterBehindCells (x : IS) (a1 : Int32) : Option (Int32) :=
  if a1 = 0 then
    some (61 : Int32)
  else
    q_b1 (f_X6_figuresOf (x 21 0)) fun r2 =>
    q_let (((1 : Int32) + r2)) fun v5 =>
    if v5 ≤ a1 then
      if a1 = v5 then
        some (32 : Int32)
      else
        q_b1 (f_X6_figuresOf (x 22 0)) fun r8 =>
        q_let (((v5 + (1 : Int32)) + r8)) fun v11 =>
        if v11 ≤ a1 then
          some (-4 : Int32)
        else
          q_b1 (f_X6_figureOf (x 22 0) ((v11 - (1 : Int32)) - a1)) fun r13 =>
          some r13
    else
      q_b1 (f_X6_figureOf (x 21 0) ((v5 - (1 : Int32)) - a1)) fun r16 =>
      some r16
def f_X6_drawn (x : IS) (a1 : Int32) : Option (Int32 × IS) :=
  if 0 ≤ a1 then
    q_b1 (f_X0_settle x) fun x2 =>
    q_b1 (f_X3_has x2 a1) fun r4 =>
    if r4 = 0 then
      q_b1 (f_X6_letterBehindCells x2 (a1 - (x2 13 0))) fun r8 =>
      some (r8, x2)
    else
      q_gd (q_in a1 48) (
      if (x2 9 a1.toNatClampNeg) = (1 : Int32) then
        some ((120 : Int32), x2)
      else
        q_b1 (f_X0_letterOf x2 a1) fun r13 =>
        some (r13, x2))
  else
    some ((-1 : Int32), x)
def f_X6_count (x : IS) (a1 : Int32) : Option (Int32 × IS) :=
  q_jn (
    q_gd (q_in (a1 - (1 : Int32)) 5) (
    some ((x 10 (a1 - (1 : Int32)).toNatClampNeg), x))) fun J72 =>
  if a1 = 0 then
    some ((x 13 0), x)
  else
  if a1 = 1 then
    J72
  else
  if a1 = 2 then
    J72
  else
  if a1 = 3 then
    J72
  else
  if a1 = 4 then
    J72
  else
  if a1 = 5 then
    J72
  else
  if a1 = 6 then
    some ((x 14 0), x)
  else
  if a1 = 7 then
    q_b1 (f_X0_settle x) fun x18 =>
    some ((x18 21 0), x18)
  else
  if a1 = 8 then
    q_b1 (f_X0_settle x) fun x16 =>
    some ((x16 22 0), x16)
  else
  if a1 = 9 then
    q_b1 (f_X3_howManyLeft x) fun r13 =>
    some (r13, x)
  else
  if a1 = 10 then
    some ((x 28 0), x)
  else
  if a1 = 11 then
    some ((x 2 0), x)
  else
  some ((-1 : Int32), x)
def f_X5_addCells__S (x : IS) (a2 : Int32) : Option (Int32 × IS) :=
  if a2 < (1 : Int32) then
    some ((0 : Int32), x)
  else
    if (20 : Int32) < a2 then
      some ((0 : Int32), x)
    else
      if ((x 6 0) + a2) ≤ (48 : Int32) then
        q_gd (¬ (0 : Int32) < 0 ∧ ¬ (x 6 0) < 0 ∧ ¬ a2 < 0 ∧ (0 : Int32).toNatClampNeg + a2.toNatClampNeg ≤ 20 ∧ (x 6 0).toNatClampNeg + a2.toNatClampNeg ≤ 48) (
        q_let (q_up x 3 (va_cpy q_FC (x 3) (0 : Int32).toNatClampNeg (x 6 0).toNatClampNeg a2.toNatClampNeg)) fun x4 =>
        q_let (q_up x4 6 (fun _ => ((x4 6 0) + a2))) fun x6 =>
        some ((1 : Int32), x6))
      else
        some ((0 : Int32), x)
end
