/-! SecondLife$Reader.readSum(I)Z -/
def f_X6_readSum_53 (n : Nat) (g_X6_readSum : Sh → Hp → Nat → Int32 → Option (Int32 × Hp)) (g_X6_readTerm : Sh → Hp → Nat → Int32 → Option (Int32 × Hp)) (g_X6_readAtom : Sh → Hp → Nat → Int32 → Option (Int32 × Hp)) (g_X6_readTruth : Sh → Hp → Nat → Int32 → Option (Int32 × Hp)) (g_X6_readBoth : Sh → Hp → Nat → Int32 → Option (Int32 × Hp)) (g_X6_readUnit : Sh → Hp → Nat → Int32 → Option (Int32 × Hp)) (z : Sh) (k8 : Hp → Nat → Int32 → Int32 → Int32 → Option (Int32 × Hp)) (h : Hp) (v0 : Nat) (v1 : Int32) (v3 : Int32) (u0 : Int32) : Option (Int32 × Hp) :=
  (f_X6_next n z h v0).bind fun h1 =>
  (ckK z v0 6).bind fun _ =>
  (g_X6_readTerm z h1 v0 v1).bind fun (x2, h3) =>
  (f_X6_emit z h3 v0 u0).bind fun h4 =>
  (some (v3 + 1)).bind fun x5 =>
  k8 h4 v0 v1 x2 x5
def f_X6_readSum_38 (n : Nat) (g_X6_readSum : Sh → Hp → Nat → Int32 → Option (Int32 × Hp)) (g_X6_readTerm : Sh → Hp → Nat → Int32 → Option (Int32 × Hp)) (g_X6_readAtom : Sh → Hp → Nat → Int32 → Option (Int32 × Hp)) (g_X6_readTruth : Sh → Hp → Nat → Int32 → Option (Int32 × Hp)) (g_X6_readBoth : Sh → Hp → Nat → Int32 → Option (Int32 × Hp)) (g_X6_readUnit : Sh → Hp → Nat → Int32 → Option (Int32 × Hp)) (z : Sh) (k8 : Hp → Nat → Int32 → Int32 → Int32 → Option (Int32 × Hp)) (h : Hp) (v0 : Nat) (v1 : Int32) (v3 : Int32) : Option (Int32 × Hp) :=
  (f_X6_is n z h v0 (z.st 44)).bind fun x1 =>
  if x1 = 0 then
    f_X6_readSum_53 n g_X6_readSum g_X6_readTerm g_X6_readAtom g_X6_readTruth g_X6_readBoth g_X6_readUnit z k8 h v0 v1 v3 (-2)
  else
    f_X6_readSum_53 n g_X6_readSum g_X6_readTerm g_X6_readAtom g_X6_readTruth g_X6_readBoth g_X6_readUnit z k8 h v0 v1 v3 (-1)
def f_X6_readSum_8 (n : Nat) (g_X6_readSum : Sh → Hp → Nat → Int32 → Option (Int32 × Hp)) (g_X6_readTerm : Sh → Hp → Nat → Int32 → Option (Int32 × Hp)) (g_X6_readAtom : Sh → Hp → Nat → Int32 → Option (Int32 × Hp)) (g_X6_readTruth : Sh → Hp → Nat → Int32 → Option (Int32 × Hp)) (g_X6_readBoth : Sh → Hp → Nat → Int32 → Option (Int32 × Hp)) (g_X6_readUnit : Sh → Hp → Nat → Int32 → Option (Int32 × Hp)) (z : Sh) : Nat → Hp → Nat → Int32 → Int32 → Int32 → Option (Int32 × Hp)
  | 0, _, _, _, _, _ => none
  | i + 1, h, v0, v1, v2, v3 =>
    (gI z h 6 v0 3).bind fun x1 =>
    if x1 ≤ v3 then
      (bz v2).bind fun x3 =>
      some (x3, h)
    else
      if v2 = 0 then
        (bz v2).bind fun x5 =>
        some (x5, h)
      else
        (f_X6_is n z h v0 (z.st 44)).bind fun x6 =>
        if x6 = 0 then
          (f_X6_is n z h v0 (z.st 45)).bind fun x8 =>
          if x8 = 0 then
            (bz v2).bind fun x10 =>
            some (x10, h)
          else
            f_X6_readSum_38 n g_X6_readSum g_X6_readTerm g_X6_readAtom g_X6_readTruth g_X6_readBoth g_X6_readUnit z (f_X6_readSum_8 n g_X6_readSum g_X6_readTerm g_X6_readAtom g_X6_readTruth g_X6_readBoth g_X6_readUnit z i) h v0 v1 v3
        else
          f_X6_readSum_38 n g_X6_readSum g_X6_readTerm g_X6_readAtom g_X6_readTruth g_X6_readBoth g_X6_readUnit z (f_X6_readSum_8 n g_X6_readSum g_X6_readTerm g_X6_readAtom g_X6_readTruth g_X6_readBoth g_X6_readUnit z i) h v0 v1 v3
def F_X6_readSum (n : Nat) (g_X6_readSum : Sh → Hp → Nat → Int32 → Option (Int32 × Hp)) (g_X6_readTerm : Sh → Hp → Nat → Int32 → Option (Int32 × Hp)) (g_X6_readAtom : Sh → Hp → Nat → Int32 → Option (Int32 × Hp)) (g_X6_readTruth : Sh → Hp → Nat → Int32 → Option (Int32 × Hp)) (g_X6_readBoth : Sh → Hp → Nat → Int32 → Option (Int32 × Hp)) (g_X6_readUnit : Sh → Hp → Nat → Int32 → Option (Int32 × Hp)) (z : Sh) (h : Hp) (v0 : Nat) (v1 : Int32) : Option (Int32 × Hp) :=
  if z.K v0 = 6 then
    (ckK z v0 6).bind fun _ =>
    (g_X6_readTerm z h v0 v1).bind fun (x1, h2) =>
    f_X6_readSum_8 n g_X6_readSum g_X6_readTerm g_X6_readAtom g_X6_readTruth g_X6_readBoth g_X6_readUnit z n h2 v0 v1 x1 0
  else none
def f_X6_readTerm_8 (n : Nat) (g_X6_readSum : Sh → Hp → Nat → Int32 → Option (Int32 × Hp)) (g_X6_readTerm : Sh → Hp → Nat → Int32 → Option (Int32 × Hp)) (g_X6_readAtom : Sh → Hp → Nat → Int32 → Option (Int32 × Hp)) (g_X6_readTruth : Sh → Hp → Nat → Int32 → Option (Int32 × Hp)) (g_X6_readBoth : Sh → Hp → Nat → Int32 → Option (Int32 × Hp)) (g_X6_readUnit : Sh → Hp → Nat → Int32 → Option (Int32 × Hp)) (z : Sh) : Nat → Hp → Nat → Int32 → Int32 → Int32 → Option (Int32 × Hp)
  | 0, _, _, _, _, _ => none
  | i + 1, h, v0, v1, v2, v3 =>
    (gI z h 6 v0 3).bind fun x1 =>
    if x1 ≤ v3 then
      (bz v2).bind fun x3 =>
      some (x3, h)
    else
      if v2 = 0 then
        (bz v2).bind fun x5 =>
        some (x5, h)
      else
        (f_X6_is n z h v0 (z.st 43)).bind fun x6 =>
        if x6 = 0 then
          (bz v2).bind fun x8 =>
          some (x8, h)
        else
          (f_X6_next n z h v0).bind fun h9 =>
          (ckK z v0 6).bind fun _ =>
          (g_X6_readAtom z h9 v0 v1).bind fun (x10, h11) =>
          (f_X6_emit z h11 v0 (-3)).bind fun h12 =>
          (some (v3 + 1)).bind fun x13 =>
          (f_X6_readTerm_8 n g_X6_readSum g_X6_readTerm g_X6_readAtom g_X6_readTruth g_X6_readBoth g_X6_readUnit z i) h12 v0 v1 x10 x13
def F_X6_readTerm (n : Nat) (g_X6_readSum : Sh → Hp → Nat → Int32 → Option (Int32 × Hp)) (g_X6_readTerm : Sh → Hp → Nat → Int32 → Option (Int32 × Hp)) (g_X6_readAtom : Sh → Hp → Nat → Int32 → Option (Int32 × Hp)) (g_X6_readTruth : Sh → Hp → Nat → Int32 → Option (Int32 × Hp)) (g_X6_readBoth : Sh → Hp → Nat → Int32 → Option (Int32 × Hp)) (g_X6_readUnit : Sh → Hp → Nat → Int32 → Option (Int32 × Hp)) (z : Sh) (h : Hp) (v0 : Nat) (v1 : Int32) : Option (Int32 × Hp) :=
  if z.K v0 = 6 then
    (ckK z v0 6).bind fun _ =>
    (g_X6_readAtom z h v0 v1).bind fun (x1, h2) =>
    f_X6_readTerm_8 n g_X6_readSum g_X6_readTerm g_X6_readAtom g_X6_readTruth g_X6_readBoth g_X6_readUnit z n h2 v0 v1 x1 0
  else none
def f_X6_readAtom_143 (n : Nat) (g_X6_readSum : Sh → Hp → Nat → Int32 → Option (Int32 × Hp)) (g_X6_readTerm : Sh → Hp → Nat → Int32 → Option (Int32 × Hp)) (g_X6_readAtom : Sh → Hp → Nat → Int32 → Option (Int32 × Hp)) (g_X6_readTruth : Sh → Hp → Nat → Int32 → Option (Int32 × Hp)) (g_X6_readBoth : Sh → Hp → Nat → Int32 → Option (Int32 × Hp)) (g_X6_readUnit : Sh → Hp → Nat → Int32 → Option (Int32 × Hp)) (z : Sh) (h : Hp) (v0 : Nat) (u0 : Int32) : Option (Int32 × Hp) :=
  (f_X6_emit z h v0 (-10)).bind fun h1 =>
  (bz u0).bind fun x2 =>
  some (x2, h1)
def f_X6_readAtom_142 (n : Nat) (g_X6_readSum : Sh → Hp → Nat → Int32 → Option (Int32 × Hp)) (g_X6_readTerm : Sh → Hp → Nat → Int32 → Option (Int32 × Hp)) (g_X6_readAtom : Sh → Hp → Nat → Int32 → Option (Int32 × Hp)) (g_X6_readTruth : Sh → Hp → Nat → Int32 → Option (Int32 × Hp)) (g_X6_readBoth : Sh → Hp → Nat → Int32 → Option (Int32 × Hp)) (g_X6_readUnit : Sh → Hp → Nat → Int32 → Option (Int32 × Hp)) (z : Sh) (h : Hp) (v0 : Nat) : Option (Int32 × Hp) :=
  f_X6_readAtom_143 n g_X6_readSum g_X6_readTerm g_X6_readAtom g_X6_readTruth g_X6_readBoth g_X6_readUnit z h v0 0
def F_X6_readAtom (n : Nat) (g_X6_readSum : Sh → Hp → Nat → Int32 → Option (Int32 × Hp)) (g_X6_readTerm : Sh → Hp → Nat → Int32 → Option (Int32 × Hp)) (g_X6_readAtom : Sh → Hp → Nat → Int32 → Option (Int32 × Hp)) (g_X6_readTruth : Sh → Hp → Nat → Int32 → Option (Int32 × Hp)) (g_X6_readBoth : Sh → Hp → Nat → Int32 → Option (Int32 × Hp)) (g_X6_readUnit : Sh → Hp → Nat → Int32 → Option (Int32 × Hp)) (z : Sh) (h : Hp) (v0 : Nat) (v1 : Int32) : Option (Int32 × Hp) :=
  if z.K v0 = 6 then
    (gI z h 6 v0 6).bind fun x1 =>
    if x1 = 1 then
      (gI z h 6 v0 7).bind fun x44 =>
      (f_X6_emit z h v0 x44).bind fun h45 =>
      (f_X6_next n z h45 v0).bind fun h46 =>
      some (1, h46)
    else
      (f_X6_is n z h v0 (z.st 23)).bind fun x3 =>
      if x3 = 0 then
        (f_X6_is n z h v0 (z.st 25)).bind fun x5 =>
        if x5 = 0 then
          (f_X6_factTold n z h v0).bind fun x7 =>
          if x7 = (-1) then
            (f_X6_wrong z h v0 2).bind fun (x11, h12) =>
            (bz x11).bind fun x13 =>
            some (x13, h12)
          else
            (f_X6_emit z h v0 ((-11) - x7)).bind fun h9 =>
            (f_X6_next n z h9 v0).bind fun h10 =>
            some (1, h10)
        else
          (f_X6_deeper n z h v0 v1).bind fun (x14, h15) =>
          if x14 = 0 then
            f_X6_readAtom_142 n g_X6_readSum g_X6_readTerm g_X6_readAtom g_X6_readTruth g_X6_readBoth g_X6_readUnit z h15 v0
          else
            (ckK z v0 6).bind fun _ =>
            (g_X6_readTruth z h15 v0 (v1 + 1)).bind fun (x17, h18) =>
            if x17 = 0 then
              f_X6_readAtom_142 n g_X6_readSum g_X6_readTerm g_X6_readAtom g_X6_readTruth g_X6_readBoth g_X6_readUnit z h18 v0
            else
              (f_X6_take n z h18 v0 (z.st 34)).bind fun (x20, h21) =>
              if x20 = 0 then
                f_X6_readAtom_142 n g_X6_readSum g_X6_readTerm g_X6_readAtom g_X6_readTruth g_X6_readBoth g_X6_readUnit z h21 v0
              else
                (ckK z v0 6).bind fun _ =>
                (g_X6_readSum z h21 v0 (v1 + 1)).bind fun (x23, h24) =>
                if x23 = 0 then
                  f_X6_readAtom_142 n g_X6_readSum g_X6_readTerm g_X6_readAtom g_X6_readTruth g_X6_readBoth g_X6_readUnit z h24 v0
                else
                  (f_X6_take n z h24 v0 (z.st 35)).bind fun (x26, h27) =>
                  if x26 = 0 then
                    f_X6_readAtom_142 n g_X6_readSum g_X6_readTerm g_X6_readAtom g_X6_readTruth g_X6_readBoth g_X6_readUnit z h27 v0
                  else
                    (ckK z v0 6).bind fun _ =>
                    (g_X6_readSum z h27 v0 (v1 + 1)).bind fun (x29, h30) =>
                    if x29 = 0 then
                      f_X6_readAtom_142 n g_X6_readSum g_X6_readTerm g_X6_readAtom g_X6_readTruth g_X6_readBoth g_X6_readUnit z h30 v0
                    else
                      (f_X6_take n z h30 v0 (z.st 36)).bind fun (x32, h33) =>
                      if x32 = 0 then
                        f_X6_readAtom_142 n g_X6_readSum g_X6_readTerm g_X6_readAtom g_X6_readTruth g_X6_readBoth g_X6_readUnit z h33 v0
                      else
                        f_X6_readAtom_143 n g_X6_readSum g_X6_readTerm g_X6_readAtom g_X6_readTruth g_X6_readBoth g_X6_readUnit z h33 v0 1
      else
        (f_X6_deeper n z h v0 v1).bind fun (x35, h36) =>
        if x35 = 0 then
          some (0, h36)
        else
          (ckK z v0 6).bind fun _ =>
          (g_X6_readSum z h36 v0 (v1 + 1)).bind fun (x38, h39) =>
          if x38 = 0 then
            some (0, h39)
          else
            (f_X6_take n z h39 v0 (z.st 24)).bind fun (x41, h42) =>
            if x41 = 0 then
              some (0, h42)
            else
              some (1, h42)
  else none
def f_X6_readTruth_8 (n : Nat) (g_X6_readSum : Sh → Hp → Nat → Int32 → Option (Int32 × Hp)) (g_X6_readTerm : Sh → Hp → Nat → Int32 → Option (Int32 × Hp)) (g_X6_readAtom : Sh → Hp → Nat → Int32 → Option (Int32 × Hp)) (g_X6_readTruth : Sh → Hp → Nat → Int32 → Option (Int32 × Hp)) (g_X6_readBoth : Sh → Hp → Nat → Int32 → Option (Int32 × Hp)) (g_X6_readUnit : Sh → Hp → Nat → Int32 → Option (Int32 × Hp)) (z : Sh) : Nat → Hp → Nat → Int32 → Int32 → Int32 → Option (Int32 × Hp)
  | 0, _, _, _, _, _ => none
  | i + 1, h, v0, v1, v2, v3 =>
    (gI z h 6 v0 3).bind fun x1 =>
    if x1 ≤ v3 then
      (bz v2).bind fun x3 =>
      some (x3, h)
    else
      if v2 = 0 then
        (bz v2).bind fun x5 =>
        some (x5, h)
      else
        (f_X6_is n z h v0 (z.st 33)).bind fun x6 =>
        if x6 = 0 then
          (bz v2).bind fun x8 =>
          some (x8, h)
        else
          (f_X6_next n z h v0).bind fun h9 =>
          (ckK z v0 6).bind fun _ =>
          (g_X6_readBoth z h9 v0 v1).bind fun (x10, h11) =>
          (f_X6_emit z h11 v0 (-8)).bind fun h12 =>
          (some (v3 + 1)).bind fun x13 =>
          (f_X6_readTruth_8 n g_X6_readSum g_X6_readTerm g_X6_readAtom g_X6_readTruth g_X6_readBoth g_X6_readUnit z i) h12 v0 v1 x10 x13
def F_X6_readTruth (n : Nat) (g_X6_readSum : Sh → Hp → Nat → Int32 → Option (Int32 × Hp)) (g_X6_readTerm : Sh → Hp → Nat → Int32 → Option (Int32 × Hp)) (g_X6_readAtom : Sh → Hp → Nat → Int32 → Option (Int32 × Hp)) (g_X6_readTruth : Sh → Hp → Nat → Int32 → Option (Int32 × Hp)) (g_X6_readBoth : Sh → Hp → Nat → Int32 → Option (Int32 × Hp)) (g_X6_readUnit : Sh → Hp → Nat → Int32 → Option (Int32 × Hp)) (z : Sh) (h : Hp) (v0 : Nat) (v1 : Int32) : Option (Int32 × Hp) :=
  if z.K v0 = 6 then
    (ckK z v0 6).bind fun _ =>
    (g_X6_readBoth z h v0 v1).bind fun (x1, h2) =>
    f_X6_readTruth_8 n g_X6_readSum g_X6_readTerm g_X6_readAtom g_X6_readTruth g_X6_readBoth g_X6_readUnit z n h2 v0 v1 x1 0
  else none
def f_X6_readBoth_8 (n : Nat) (g_X6_readSum : Sh → Hp → Nat → Int32 → Option (Int32 × Hp)) (g_X6_readTerm : Sh → Hp → Nat → Int32 → Option (Int32 × Hp)) (g_X6_readAtom : Sh → Hp → Nat → Int32 → Option (Int32 × Hp)) (g_X6_readTruth : Sh → Hp → Nat → Int32 → Option (Int32 × Hp)) (g_X6_readBoth : Sh → Hp → Nat → Int32 → Option (Int32 × Hp)) (g_X6_readUnit : Sh → Hp → Nat → Int32 → Option (Int32 × Hp)) (z : Sh) : Nat → Hp → Nat → Int32 → Int32 → Int32 → Option (Int32 × Hp)
  | 0, _, _, _, _, _ => none
  | i + 1, h, v0, v1, v2, v3 =>
    (gI z h 6 v0 3).bind fun x1 =>
    if x1 ≤ v3 then
      (bz v2).bind fun x3 =>
      some (x3, h)
    else
      if v2 = 0 then
        (bz v2).bind fun x5 =>
        some (x5, h)
      else
        (f_X6_is n z h v0 (z.st 32)).bind fun x6 =>
        if x6 = 0 then
          (bz v2).bind fun x8 =>
          some (x8, h)
        else
          (f_X6_next n z h v0).bind fun h9 =>
          (ckK z v0 6).bind fun _ =>
          (g_X6_readUnit z h9 v0 v1).bind fun (x10, h11) =>
          (f_X6_emit z h11 v0 (-7)).bind fun h12 =>
          (some (v3 + 1)).bind fun x13 =>
          (f_X6_readBoth_8 n g_X6_readSum g_X6_readTerm g_X6_readAtom g_X6_readTruth g_X6_readBoth g_X6_readUnit z i) h12 v0 v1 x10 x13
def F_X6_readBoth (n : Nat) (g_X6_readSum : Sh → Hp → Nat → Int32 → Option (Int32 × Hp)) (g_X6_readTerm : Sh → Hp → Nat → Int32 → Option (Int32 × Hp)) (g_X6_readAtom : Sh → Hp → Nat → Int32 → Option (Int32 × Hp)) (g_X6_readTruth : Sh → Hp → Nat → Int32 → Option (Int32 × Hp)) (g_X6_readBoth : Sh → Hp → Nat → Int32 → Option (Int32 × Hp)) (g_X6_readUnit : Sh → Hp → Nat → Int32 → Option (Int32 × Hp)) (z : Sh) (h : Hp) (v0 : Nat) (v1 : Int32) : Option (Int32 × Hp) :=
  if z.K v0 = 6 then
    (ckK z v0 6).bind fun _ =>
    (g_X6_readUnit z h v0 v1).bind fun (x1, h2) =>
    f_X6_readBoth_8 n g_X6_readSum g_X6_readTerm g_X6_readAtom g_X6_readTruth g_X6_readBoth g_X6_readUnit z n h2 v0 v1 x1 0
  else none
def f_X6_readUnit_145 (n : Nat) (g_X6_readSum : Sh → Hp → Nat → Int32 → Option (Int32 × Hp)) (g_X6_readTerm : Sh → Hp → Nat → Int32 → Option (Int32 × Hp)) (g_X6_readAtom : Sh → Hp → Nat → Int32 → Option (Int32 × Hp)) (g_X6_readTruth : Sh → Hp → Nat → Int32 → Option (Int32 × Hp)) (g_X6_readBoth : Sh → Hp → Nat → Int32 → Option (Int32 × Hp)) (g_X6_readUnit : Sh → Hp → Nat → Int32 → Option (Int32 × Hp)) (z : Sh) (h : Hp) (v0 : Nat) (v1 : Int32) (v2 : Int32) : Option (Int32 × Hp) :=
  (f_X6_next n z h v0).bind fun h1 =>
  (ckK z v0 6).bind fun _ =>
  (g_X6_readSum z h1 v0 v1).bind fun (x2, h3) =>
  (f_X6_emit z h3 v0 v2).bind fun h4 =>
  (bz x2).bind fun x5 =>
  some (x5, h4)
def f_X6_readUnit_123 (n : Nat) (g_X6_readSum : Sh → Hp → Nat → Int32 → Option (Int32 × Hp)) (g_X6_readTerm : Sh → Hp → Nat → Int32 → Option (Int32 × Hp)) (g_X6_readAtom : Sh → Hp → Nat → Int32 → Option (Int32 × Hp)) (g_X6_readTruth : Sh → Hp → Nat → Int32 → Option (Int32 × Hp)) (g_X6_readBoth : Sh → Hp → Nat → Int32 → Option (Int32 × Hp)) (g_X6_readUnit : Sh → Hp → Nat → Int32 → Option (Int32 × Hp)) (z : Sh) (h : Hp) (v0 : Nat) (v1 : Int32) (u0 : Int32) : Option (Int32 × Hp) :=
  if u0 = (-6) then
    (f_X6_is n z h v0 (z.st 31)).bind fun x2 =>
    if x2 = 0 then
      (f_X6_wrong z h v0 2).bind fun (x4, h5) =>
      (bz x4).bind fun x6 =>
      some (x6, h5)
    else
      f_X6_readUnit_145 n g_X6_readSum g_X6_readTerm g_X6_readAtom g_X6_readTruth g_X6_readBoth g_X6_readUnit z h v0 v1 u0
  else
    f_X6_readUnit_145 n g_X6_readSum g_X6_readTerm g_X6_readAtom g_X6_readTruth g_X6_readBoth g_X6_readUnit z h v0 v1 u0
def f_X6_readUnit_32 (n : Nat) (g_X6_readSum : Sh → Hp → Nat → Int32 → Option (Int32 × Hp)) (g_X6_readTerm : Sh → Hp → Nat → Int32 → Option (Int32 × Hp)) (g_X6_readAtom : Sh → Hp → Nat → Int32 → Option (Int32 × Hp)) (g_X6_readTruth : Sh → Hp → Nat → Int32 → Option (Int32 × Hp)) (g_X6_readBoth : Sh → Hp → Nat → Int32 → Option (Int32 × Hp)) (g_X6_readUnit : Sh → Hp → Nat → Int32 → Option (Int32 × Hp)) (z : Sh) (h : Hp) (v0 : Nat) (u0 : Int32) : Option (Int32 × Hp) :=
  (f_X6_emit z h v0 (-9)).bind fun h1 =>
  (bz u0).bind fun x2 =>
  some (x2, h1)
def f_X6_readUnit_31 (n : Nat) (g_X6_readSum : Sh → Hp → Nat → Int32 → Option (Int32 × Hp)) (g_X6_readTerm : Sh → Hp → Nat → Int32 → Option (Int32 × Hp)) (g_X6_readAtom : Sh → Hp → Nat → Int32 → Option (Int32 × Hp)) (g_X6_readTruth : Sh → Hp → Nat → Int32 → Option (Int32 × Hp)) (g_X6_readBoth : Sh → Hp → Nat → Int32 → Option (Int32 × Hp)) (g_X6_readUnit : Sh → Hp → Nat → Int32 → Option (Int32 × Hp)) (z : Sh) (h : Hp) (v0 : Nat) : Option (Int32 × Hp) :=
  f_X6_readUnit_32 n g_X6_readSum g_X6_readTerm g_X6_readAtom g_X6_readTruth g_X6_readBoth g_X6_readUnit z h v0 0
def F_X6_readUnit (n : Nat) (g_X6_readSum : Sh → Hp → Nat → Int32 → Option (Int32 × Hp)) (g_X6_readTerm : Sh → Hp → Nat → Int32 → Option (Int32 × Hp)) (g_X6_readAtom : Sh → Hp → Nat → Int32 → Option (Int32 × Hp)) (g_X6_readTruth : Sh → Hp → Nat → Int32 → Option (Int32 × Hp)) (g_X6_readBoth : Sh → Hp → Nat → Int32 → Option (Int32 × Hp)) (g_X6_readUnit : Sh → Hp → Nat → Int32 → Option (Int32 × Hp)) (z : Sh) (h : Hp) (v0 : Nat) (v1 : Int32) : Option (Int32 × Hp) :=
  if z.K v0 = 6 then
    (f_X6_is n z h v0 (z.st 26)).bind fun x1 =>
    if x1 = 0 then
      (f_X6_is n z h v0 (z.st 27)).bind fun x3 =>
      if x3 = 0 then
        (ckK z v0 6).bind fun _ =>
        (g_X6_readSum z h v0 v1).bind fun (x5, h6) =>
        if x5 = 0 then
          some (0, h6)
        else
          (f_X6_is n z h6 v0 (z.st 29)).bind fun x8 =>
          if x8 = 0 then
            (f_X6_is n z h6 v0 (z.st 30)).bind fun x10 =>
            if x10 = 0 then
              f_X6_readUnit_123 n g_X6_readSum g_X6_readTerm g_X6_readAtom g_X6_readTruth g_X6_readBoth g_X6_readUnit z h6 v0 v1 (-6)
            else
              f_X6_readUnit_123 n g_X6_readSum g_X6_readTerm g_X6_readAtom g_X6_readTruth g_X6_readBoth g_X6_readUnit z h6 v0 v1 (-5)
          else
            f_X6_readUnit_123 n g_X6_readSum g_X6_readTerm g_X6_readAtom g_X6_readTruth g_X6_readBoth g_X6_readUnit z h6 v0 v1 (-4)
      else
        (f_X6_deeper n z h v0 v1).bind fun (x12, h13) =>
        if x12 = 0 then
          some (0, h13)
        else
          (ckK z v0 6).bind fun _ =>
          (g_X6_readTruth z h13 v0 (v1 + 1)).bind fun (x15, h16) =>
          if x15 = 0 then
            some (0, h16)
          else
            (f_X6_take n z h16 v0 (z.st 28)).bind fun (x18, h19) =>
            if x18 = 0 then
              some (0, h19)
            else
              some (1, h19)
    else
      (f_X6_deeper n z h v0 v1).bind fun (x21, h22) =>
      if x21 = 0 then
        f_X6_readUnit_31 n g_X6_readSum g_X6_readTerm g_X6_readAtom g_X6_readTruth g_X6_readBoth g_X6_readUnit z h22 v0
      else
        (ckK z v0 6).bind fun _ =>
        (g_X6_readUnit z h22 v0 (v1 + 1)).bind fun (x24, h25) =>
        if x24 = 0 then
          f_X6_readUnit_31 n g_X6_readSum g_X6_readTerm g_X6_readAtom g_X6_readTruth g_X6_readBoth g_X6_readUnit z h25 v0
        else
          f_X6_readUnit_32 n g_X6_readSum g_X6_readTerm g_X6_readAtom g_X6_readTruth g_X6_readBoth g_X6_readUnit z h25 v0 1
  else none
def rc_X6_readSum (n : Nat) : Nat → (Sh → Hp → Nat → Int32 → Option (Int32 × Hp)) × (Sh → Hp → Nat → Int32 → Option (Int32 × Hp)) × (Sh → Hp → Nat → Int32 → Option (Int32 × Hp)) × (Sh → Hp → Nat → Int32 → Option (Int32 × Hp)) × (Sh → Hp → Nat → Int32 → Option (Int32 × Hp)) × (Sh → Hp → Nat → Int32 → Option (Int32 × Hp))
  | 0 => (fun _ _ _ _ => none, fun _ _ _ _ => none, fun _ _ _ _ => none, fun _ _ _ _ => none, fun _ _ _ _ => none, fun _ _ _ _ => none)
  | i + 1 => (F_X6_readSum n (rc_X6_readSum n i).1 (rc_X6_readSum n i).2.1 (rc_X6_readSum n i).2.2.1 (rc_X6_readSum n i).2.2.2.1 (rc_X6_readSum n i).2.2.2.2.1 (rc_X6_readSum n i).2.2.2.2.2, F_X6_readTerm n (rc_X6_readSum n i).1 (rc_X6_readSum n i).2.1 (rc_X6_readSum n i).2.2.1 (rc_X6_readSum n i).2.2.2.1 (rc_X6_readSum n i).2.2.2.2.1 (rc_X6_readSum n i).2.2.2.2.2, F_X6_readAtom n (rc_X6_readSum n i).1 (rc_X6_readSum n i).2.1 (rc_X6_readSum n i).2.2.1 (rc_X6_readSum n i).2.2.2.1 (rc_X6_readSum n i).2.2.2.2.1 (rc_X6_readSum n i).2.2.2.2.2, F_X6_readTruth n (rc_X6_readSum n i).1 (rc_X6_readSum n i).2.1 (rc_X6_readSum n i).2.2.1 (rc_X6_readSum n i).2.2.2.1 (rc_X6_readSum n i).2.2.2.2.1 (rc_X6_readSum n i).2.2.2.2.2, F_X6_readBoth n (rc_X6_readSum n i).1 (rc_X6_readSum n i).2.1 (rc_X6_readSum n i).2.2.1 (rc_X6_readSum n i).2.2.2.1 (rc_X6_readSum n i).2.2.2.2.1 (rc_X6_readSum n i).2.2.2.2.2, F_X6_readUnit n (rc_X6_readSum n i).1 (rc_X6_readSum n i).2.1 (rc_X6_readSum n i).2.2.1 (rc_X6_readSum n i).2.2.2.1 (rc_X6_readSum n i).2.2.2.2.1 (rc_X6_readSum n i).2.2.2.2.2)
def f_X6_readSum (n : Nat) (z : Sh) (h : Hp) (v0 : Nat) (v1 : Int32) : Option (Int32 × Hp) := (rc_X6_readSum n 60).1 z h v0 v1
theorem k_X6_readSum {n : Nat} {z : Sh} {h : Hp} {v0 : Nat} {v1 : Int32} {w : Int32 × Hp} (hf : f_X6_readSum n z h v0 v1 = some w) : z.K v0 = 6 := by
  have hf : F_X6_readSum n (rc_X6_readSum n 59).1 (rc_X6_readSum n 59).2.1 (rc_X6_readSum n 59).2.2.1 (rc_X6_readSum n 59).2.2.2.1 (rc_X6_readSum n 59).2.2.2.2.1 (rc_X6_readSum n 59).2.2.2.2.2 z h v0 v1 = some w := hf
  unfold F_X6_readSum at hf
  exact (if_some hf).1
def f_X6_readTerm (n : Nat) (z : Sh) (h : Hp) (v0 : Nat) (v1 : Int32) : Option (Int32 × Hp) := (rc_X6_readSum n 60).2.1 z h v0 v1
theorem k_X6_readTerm {n : Nat} {z : Sh} {h : Hp} {v0 : Nat} {v1 : Int32} {w : Int32 × Hp} (hf : f_X6_readTerm n z h v0 v1 = some w) : z.K v0 = 6 := by
  have hf : F_X6_readTerm n (rc_X6_readSum n 59).1 (rc_X6_readSum n 59).2.1 (rc_X6_readSum n 59).2.2.1 (rc_X6_readSum n 59).2.2.2.1 (rc_X6_readSum n 59).2.2.2.2.1 (rc_X6_readSum n 59).2.2.2.2.2 z h v0 v1 = some w := hf
  unfold F_X6_readTerm at hf
  exact (if_some hf).1
def f_X6_readAtom (n : Nat) (z : Sh) (h : Hp) (v0 : Nat) (v1 : Int32) : Option (Int32 × Hp) := (rc_X6_readSum n 60).2.2.1 z h v0 v1
theorem k_X6_readAtom {n : Nat} {z : Sh} {h : Hp} {v0 : Nat} {v1 : Int32} {w : Int32 × Hp} (hf : f_X6_readAtom n z h v0 v1 = some w) : z.K v0 = 6 := by
  have hf : F_X6_readAtom n (rc_X6_readSum n 59).1 (rc_X6_readSum n 59).2.1 (rc_X6_readSum n 59).2.2.1 (rc_X6_readSum n 59).2.2.2.1 (rc_X6_readSum n 59).2.2.2.2.1 (rc_X6_readSum n 59).2.2.2.2.2 z h v0 v1 = some w := hf
  unfold F_X6_readAtom at hf
  exact (if_some hf).1
def f_X6_readTruth (n : Nat) (z : Sh) (h : Hp) (v0 : Nat) (v1 : Int32) : Option (Int32 × Hp) := (rc_X6_readSum n 60).2.2.2.1 z h v0 v1
theorem k_X6_readTruth {n : Nat} {z : Sh} {h : Hp} {v0 : Nat} {v1 : Int32} {w : Int32 × Hp} (hf : f_X6_readTruth n z h v0 v1 = some w) : z.K v0 = 6 := by
  have hf : F_X6_readTruth n (rc_X6_readSum n 59).1 (rc_X6_readSum n 59).2.1 (rc_X6_readSum n 59).2.2.1 (rc_X6_readSum n 59).2.2.2.1 (rc_X6_readSum n 59).2.2.2.2.1 (rc_X6_readSum n 59).2.2.2.2.2 z h v0 v1 = some w := hf
  unfold F_X6_readTruth at hf
  exact (if_some hf).1
def f_X6_readBoth (n : Nat) (z : Sh) (h : Hp) (v0 : Nat) (v1 : Int32) : Option (Int32 × Hp) := (rc_X6_readSum n 60).2.2.2.2.1 z h v0 v1
theorem k_X6_readBoth {n : Nat} {z : Sh} {h : Hp} {v0 : Nat} {v1 : Int32} {w : Int32 × Hp} (hf : f_X6_readBoth n z h v0 v1 = some w) : z.K v0 = 6 := by
  have hf : F_X6_readBoth n (rc_X6_readSum n 59).1 (rc_X6_readSum n 59).2.1 (rc_X6_readSum n 59).2.2.1 (rc_X6_readSum n 59).2.2.2.1 (rc_X6_readSum n 59).2.2.2.2.1 (rc_X6_readSum n 59).2.2.2.2.2 z h v0 v1 = some w := hf
  unfold F_X6_readBoth at hf
  exact (if_some hf).1
def f_X6_readUnit (n : Nat) (z : Sh) (h : Hp) (v0 : Nat) (v1 : Int32) : Option (Int32 × Hp) := (rc_X6_readSum n 60).2.2.2.2.2 z h v0 v1
theorem k_X6_readUnit {n : Nat} {z : Sh} {h : Hp} {v0 : Nat} {v1 : Int32} {w : Int32 × Hp} (hf : f_X6_readUnit n z h v0 v1 = some w) : z.K v0 = 6 := by
  have hf : F_X6_readUnit n (rc_X6_readSum n 59).1 (rc_X6_readSum n 59).2.1 (rc_X6_readSum n 59).2.2.1 (rc_X6_readSum n 59).2.2.2.1 (rc_X6_readSum n 59).2.2.2.2.1 (rc_X6_readSum n 59).2.2.2.2.2 z h v0 v1 = some w := hf
  unfold F_X6_readUnit at hf
  exact (if_some hf).1
set_option maxHeartbeats 4000000 in
theorem w_X6_readSum_53 {p : Program} {l : Launch} {e : Env} {s : State} {m : MethodId} {args : Array Value} {below : List Frame} {meth : Method} {c : Code} {s0 : State} {E : Ev} {z : Sh} {d : Nat} {g_X6_readSum : Sh → Hp → Nat → Int32 → Option (Int32 × Hp)} {g_X6_readTerm : Sh → Hp → Nat → Int32 → Option (Int32 × Hp)} {g_X6_readAtom : Sh → Hp → Nat → Int32 → Option (Int32 × Hp)} {g_X6_readTruth : Sh → Hp → Nat → Int32 → Option (Int32 × Hp)} {g_X6_readBoth : Sh → Hp → Nat → Int32 → Option (Int32 × Hp)} {g_X6_readUnit : Sh → Hp → Nat → Int32 → Option (Int32 × Hp)} {n : Nat} {k8 : Hp → Nat → Int32 → Int32 → Int32 → Option (Int32 × Hp)} {r : Int32} {h' : Hp} (G : Gl s0 E) (B : Bd p s0 s E m c cX6_readSum 5 RX6) (hz : s0.heap.size ≤ z.sz) (hc0 : s.heap.size + 0 = z.sz) (hr : meth.sig.returnType = (some .boolean)) (hlk : meth.locks = false) (H_X6_readSum : ∀ {z : Sh} {h : Hp} {v0 : Nat} {v1 : Int32} {r : Int32} {h' : Hp}, g_X6_readSum z h v0 v1 = some (r, h') → Ct l s0 E yX6_readSum cX6_readSum 5 (some .boolean) (7 + d) (134 + 60 * d) [.ref v0, .int v1] z h h' (some (.int r))) (H_X6_readTerm : ∀ {z : Sh} {h : Hp} {v0 : Nat} {v1 : Int32} {r : Int32} {h' : Hp}, g_X6_readTerm z h v0 v1 = some (r, h') → Ct l s0 E yX6_readTerm cX6_readTerm 4 (some .boolean) (7 + d) (134 + 60 * d) [.ref v0, .int v1] z h h' (some (.int r))) (H_X6_readAtom : ∀ {z : Sh} {h : Hp} {v0 : Nat} {v1 : Int32} {r : Int32} {h' : Hp}, g_X6_readAtom z h v0 v1 = some (r, h') → Ct l s0 E yX6_readAtom cX6_readAtom 3 (some .boolean) (7 + d) (134 + 60 * d) [.ref v0, .int v1] z h h' (some (.int r))) (H_X6_readTruth : ∀ {z : Sh} {h : Hp} {v0 : Nat} {v1 : Int32} {r : Int32} {h' : Hp}, g_X6_readTruth z h v0 v1 = some (r, h') → Ct l s0 E yX6_readTruth cX6_readTruth 4 (some .boolean) (7 + d) (134 + 60 * d) [.ref v0, .int v1] z h h' (some (.int r))) (H_X6_readBoth : ∀ {z : Sh} {h : Hp} {v0 : Nat} {v1 : Int32} {r : Int32} {h' : Hp}, g_X6_readBoth z h v0 v1 = some (r, h') → Ct l s0 E yX6_readBoth cX6_readBoth 4 (some .boolean) (7 + d) (134 + 60 * d) [.ref v0, .int v1] z h h' (some (.int r))) (H_X6_readUnit : ∀ {z : Sh} {h : Hp} {v0 : Nat} {v1 : Int32} {r : Int32} {h' : Hp}, g_X6_readUnit z h v0 v1 = some (r, h') → Ct l s0 E yX6_readUnit cX6_readUnit 4 (some .boolean) (7 + d) (134 + 60 * d) [.ref v0, .int v1] z h h' (some (.int r))) (hk8 : ∀ (h : Hp) (v0 : Nat) (v1 : Int32) (v2 : Int32) (v3 : Int32) (H : Heap) (locs : List Loc) (ls : Array Slot), Pw s0 s E z h H locs → lv_has ls 5 [(0, .ref v0), (1, .int v1), (2, .int v2), (3, .int v3)] → k8 h v0 v1 v2 v3 = some (r, h') → W p l e (rmO (7 + (d + 1)) (134 + 60 * (d + 1))) s m args below meth c H locs 0 0 (Zt below s0 E z h' (some (.int r)) args s 0 0) (F0 m 8 ls [])) : ∀ (h : Hp) (v0 : Nat) (v1 : Int32) (v3 : Int32) (u0 : Int32) (H : Heap) (locs : List Loc) (ls : Array Slot), Pw s0 s E z h H locs → lv_has ls 5 [(0, .ref v0), (1, .int v1), (3, .int v3)] → f_X6_readSum_53 n g_X6_readSum g_X6_readTerm g_X6_readAtom g_X6_readTruth g_X6_readBoth g_X6_readUnit z k8 h v0 v1 v3 u0 = some (r, h') → W p l e (rmO (7 + (d + 1)) (134 + 60 * (d + 1))) s m args below meth c H locs 0 0 (Zt below s0 E z h' (some (.int r)) args s 0 0) (F0 m 53 ls [.int u0]) := by
  have hx := B.1
  have hb := B.2.1
  intro h v0 v1 v3 u0 H locs ls hw hl hf
  unfold f_X6_readSum_53 at hf
  refine lv_istore (lv' := [(4, .int u0), (0, .ref v0), (1, .int v1), (3, .int v3)]) hx hb dX6_readSum_53 hl (by decide) rfl (fun ls hl => ?_)
  refine lv_aload_n hx hb dX6_readSum_55 rfl (lv_at hl 1 rfl) ?_
  obtain ⟨h1, e, hf⟩ := ob hf
  refine q_callV (As := []) (rest := []) (st1 := []) (c_X6_next G e) B hw hz hc0 (k_X6_next e) (by decide) (ci := 6) rfl rfl my_X6_next mv_X6_next tw_2_171 ⟨by simp only [rmO, rmA]; omega, by simp only [rmO, rmA]; omega⟩ ⟨Nat.zero_le _, Nat.zero_le _⟩ rfl hl.1 rfl rfl (Nat.le_of_ble_eq_true rfl) dX6_readSum_56 (fun H locs hw => ?_)
  refine lv_aload_n hx hb dX6_readSum_59 rfl (lv_at hl 1 rfl) ?_
  refine lv_iload_n hx hb dX6_readSum_60 rfl (lv_at hl 2 rfl) ?_
  obtain ⟨_, eK, hf⟩ := ob hf
  obtain ⟨⟨x2, h3⟩, e, hf⟩ := ob hf
  refine q_callV (As := [.int v1]) (rest := []) (st1 := [.int x2]) (H_X6_readTerm e) B hw hz hc0 ((if_some eK).1) (by decide) (ci := 6) rfl rfl my_X6_readTerm mv_X6_readTerm tw_3_110 ⟨by simp only [rmO, rmA]; omega, by simp only [rmO, rmA]; omega⟩ ⟨Nat.zero_le _, Nat.zero_le _⟩ rfl hl.1 rfl rfl (Nat.le_of_ble_eq_true rfl) dX6_readSum_61 (fun H locs hw => ?_)
  refine lv_istore_n (lv' := [(2, .int x2), (4, .int u0), (0, .ref v0), (1, .int v1), (3, .int v3)]) hx hb dX6_readSum_64 rfl hl (by decide) rfl (fun ls hl => ?_)
  refine lv_aload_n hx hb dX6_readSum_65 rfl (lv_at hl 2 rfl) ?_
  refine lv_iload hx hb dX6_readSum_66 (lv_at hl 1 rfl) ?_
  obtain ⟨h4, e, hf⟩ := ob hf
  refine q_callV (As := [.int u0]) (rest := []) (st1 := []) (c_X6_emit G e) B hw hz hc0 (k_X6_emit e) (by decide) (ci := 6) rfl rfl my_X6_emit mv_X6_emit tw_3_118 ⟨by simp only [rmO, rmA]; omega, by simp only [rmO, rmA]; omega⟩ ⟨Nat.zero_le _, Nat.zero_le _⟩ rfl hl.1 rfl rfl (Nat.le_of_ble_eq_true rfl) dX6_readSum_68 (fun H locs hw => ?_)
  obtain ⟨x5, e, hf⟩ := ob hf
  refine lv_iinc (v := x5) (lv' := [(3, .int x5), (2, .int x2), (4, .int u0), (0, .ref v0), (1, .int v1)]) hx hb dX6_readSum_71 hl (k := 4) rfl (Option.some.inj e) (by decide) rfl (fun ls hl => ?_)
  refine lv_goto (tgt := 8) hx hb dX6_readSum_74 (by decide) ?_
  exact hk8 h4 v0 v1 x2 x5 _ _ _ hw (lv_sub hl [3, 4, 1, 0] rfl) hf
set_option maxHeartbeats 4000000 in
theorem w_X6_readSum_38 {p : Program} {l : Launch} {e : Env} {s : State} {m : MethodId} {args : Array Value} {below : List Frame} {meth : Method} {c : Code} {s0 : State} {E : Ev} {z : Sh} {d : Nat} {g_X6_readSum : Sh → Hp → Nat → Int32 → Option (Int32 × Hp)} {g_X6_readTerm : Sh → Hp → Nat → Int32 → Option (Int32 × Hp)} {g_X6_readAtom : Sh → Hp → Nat → Int32 → Option (Int32 × Hp)} {g_X6_readTruth : Sh → Hp → Nat → Int32 → Option (Int32 × Hp)} {g_X6_readBoth : Sh → Hp → Nat → Int32 → Option (Int32 × Hp)} {g_X6_readUnit : Sh → Hp → Nat → Int32 → Option (Int32 × Hp)} {n : Nat} {k8 : Hp → Nat → Int32 → Int32 → Int32 → Option (Int32 × Hp)} {r : Int32} {h' : Hp} (G : Gl s0 E) (B : Bd p s0 s E m c cX6_readSum 5 RX6) (hz : s0.heap.size ≤ z.sz) (hc0 : s.heap.size + 0 = z.sz) (hr : meth.sig.returnType = (some .boolean)) (hlk : meth.locks = false) (H_X6_readSum : ∀ {z : Sh} {h : Hp} {v0 : Nat} {v1 : Int32} {r : Int32} {h' : Hp}, g_X6_readSum z h v0 v1 = some (r, h') → Ct l s0 E yX6_readSum cX6_readSum 5 (some .boolean) (7 + d) (134 + 60 * d) [.ref v0, .int v1] z h h' (some (.int r))) (H_X6_readTerm : ∀ {z : Sh} {h : Hp} {v0 : Nat} {v1 : Int32} {r : Int32} {h' : Hp}, g_X6_readTerm z h v0 v1 = some (r, h') → Ct l s0 E yX6_readTerm cX6_readTerm 4 (some .boolean) (7 + d) (134 + 60 * d) [.ref v0, .int v1] z h h' (some (.int r))) (H_X6_readAtom : ∀ {z : Sh} {h : Hp} {v0 : Nat} {v1 : Int32} {r : Int32} {h' : Hp}, g_X6_readAtom z h v0 v1 = some (r, h') → Ct l s0 E yX6_readAtom cX6_readAtom 3 (some .boolean) (7 + d) (134 + 60 * d) [.ref v0, .int v1] z h h' (some (.int r))) (H_X6_readTruth : ∀ {z : Sh} {h : Hp} {v0 : Nat} {v1 : Int32} {r : Int32} {h' : Hp}, g_X6_readTruth z h v0 v1 = some (r, h') → Ct l s0 E yX6_readTruth cX6_readTruth 4 (some .boolean) (7 + d) (134 + 60 * d) [.ref v0, .int v1] z h h' (some (.int r))) (H_X6_readBoth : ∀ {z : Sh} {h : Hp} {v0 : Nat} {v1 : Int32} {r : Int32} {h' : Hp}, g_X6_readBoth z h v0 v1 = some (r, h') → Ct l s0 E yX6_readBoth cX6_readBoth 4 (some .boolean) (7 + d) (134 + 60 * d) [.ref v0, .int v1] z h h' (some (.int r))) (H_X6_readUnit : ∀ {z : Sh} {h : Hp} {v0 : Nat} {v1 : Int32} {r : Int32} {h' : Hp}, g_X6_readUnit z h v0 v1 = some (r, h') → Ct l s0 E yX6_readUnit cX6_readUnit 4 (some .boolean) (7 + d) (134 + 60 * d) [.ref v0, .int v1] z h h' (some (.int r))) (hk8 : ∀ (h : Hp) (v0 : Nat) (v1 : Int32) (v2 : Int32) (v3 : Int32) (H : Heap) (locs : List Loc) (ls : Array Slot), Pw s0 s E z h H locs → lv_has ls 5 [(0, .ref v0), (1, .int v1), (2, .int v2), (3, .int v3)] → k8 h v0 v1 v2 v3 = some (r, h') → W p l e (rmO (7 + (d + 1)) (134 + 60 * (d + 1))) s m args below meth c H locs 0 0 (Zt below s0 E z h' (some (.int r)) args s 0 0) (F0 m 8 ls [])) : ∀ (h : Hp) (v0 : Nat) (v1 : Int32) (v3 : Int32) (H : Heap) (locs : List Loc) (ls : Array Slot), Pw s0 s E z h H locs → lv_has ls 5 [(0, .ref v0), (1, .int v1), (3, .int v3)] → f_X6_readSum_38 n g_X6_readSum g_X6_readTerm g_X6_readAtom g_X6_readTruth g_X6_readBoth g_X6_readUnit z k8 h v0 v1 v3 = some (r, h') → W p l e (rmO (7 + (d + 1)) (134 + 60 * (d + 1))) s m args below meth c H locs 0 0 (Zt below s0 E z h' (some (.int r)) args s 0 0) (F0 m 38 ls []) := by
  have hx := B.1
  have hb := B.2.1
  intro h v0 v1 v3 H locs ls hw hl hf
  unfold f_X6_readSum_38 at hf
  refine lv_aload_n hx hb dX6_readSum_38 rfl (lv_at hl 0 rfl) ?_
  refine q_ldcS (tx := "+") G (i := 44) (List.mem_of_getElem? (i := 34) (by decide +kernel)) B hw dX6_readSum_39 ?_
  obtain ⟨x1, e, hf⟩ := ob hf
  refine q_callV (As := [.ref (z.st 44)]) (rest := []) (st1 := [.int x1]) (c_X6_is G e) B hw hz hc0 (k_X6_is e) (by decide) (ci := 6) rfl rfl my_X6_is mv_X6_is tw_3_42 ⟨by simp only [rmO, rmA]; omega, by simp only [rmO, rmA]; omega⟩ ⟨Nat.zero_le _, Nat.zero_le _⟩ rfl hl.1 rfl rfl (Nat.le_of_ble_eq_true rfl) dX6_readSum_41 (fun H locs hw => ?_)
  refine lv_if_eq (tgt := 51) hx hb dX6_readSum_44 (by decide) (fun c2 => ?_) (fun c2 => ?_)
  · have hf := (if_pos c2).symm.trans hf
    refine lv_bipush (v := (-2)) hx hb dX6_readSum_51 (by decide) ?_
    exact w_X6_readSum_53 G B hz hc0 hr hlk H_X6_readSum H_X6_readTerm H_X6_readAtom H_X6_readTruth H_X6_readBoth H_X6_readUnit hk8 h v0 v1 v3 (-2) _ _ _ hw (lv_sub hl [0, 1, 2] rfl) hf
  · have hf := (if_neg c2).symm.trans hf
    refine lv_iconst (v := (-1)) hx hb dX6_readSum_47 (by decide) ?_
    refine lv_goto (tgt := 53) hx hb dX6_readSum_48 (by decide) ?_
    exact w_X6_readSum_53 G B hz hc0 hr hlk H_X6_readSum H_X6_readTerm H_X6_readAtom H_X6_readTruth H_X6_readBoth H_X6_readUnit hk8 h v0 v1 v3 (-1) _ _ _ hw (lv_sub hl [0, 1, 2] rfl) hf
set_option maxHeartbeats 4000000 in
theorem w_X6_readSum_8 {p : Program} {l : Launch} {e : Env} {s : State} {m : MethodId} {args : Array Value} {below : List Frame} {meth : Method} {c : Code} {s0 : State} {E : Ev} {z : Sh} {d : Nat} {g_X6_readSum : Sh → Hp → Nat → Int32 → Option (Int32 × Hp)} {g_X6_readTerm : Sh → Hp → Nat → Int32 → Option (Int32 × Hp)} {g_X6_readAtom : Sh → Hp → Nat → Int32 → Option (Int32 × Hp)} {g_X6_readTruth : Sh → Hp → Nat → Int32 → Option (Int32 × Hp)} {g_X6_readBoth : Sh → Hp → Nat → Int32 → Option (Int32 × Hp)} {g_X6_readUnit : Sh → Hp → Nat → Int32 → Option (Int32 × Hp)} {n : Nat} {r : Int32} {h' : Hp} (G : Gl s0 E) (B : Bd p s0 s E m c cX6_readSum 5 RX6) (hz : s0.heap.size ≤ z.sz) (hc0 : s.heap.size + 0 = z.sz) (hr : meth.sig.returnType = (some .boolean)) (hlk : meth.locks = false) (H_X6_readSum : ∀ {z : Sh} {h : Hp} {v0 : Nat} {v1 : Int32} {r : Int32} {h' : Hp}, g_X6_readSum z h v0 v1 = some (r, h') → Ct l s0 E yX6_readSum cX6_readSum 5 (some .boolean) (7 + d) (134 + 60 * d) [.ref v0, .int v1] z h h' (some (.int r))) (H_X6_readTerm : ∀ {z : Sh} {h : Hp} {v0 : Nat} {v1 : Int32} {r : Int32} {h' : Hp}, g_X6_readTerm z h v0 v1 = some (r, h') → Ct l s0 E yX6_readTerm cX6_readTerm 4 (some .boolean) (7 + d) (134 + 60 * d) [.ref v0, .int v1] z h h' (some (.int r))) (H_X6_readAtom : ∀ {z : Sh} {h : Hp} {v0 : Nat} {v1 : Int32} {r : Int32} {h' : Hp}, g_X6_readAtom z h v0 v1 = some (r, h') → Ct l s0 E yX6_readAtom cX6_readAtom 3 (some .boolean) (7 + d) (134 + 60 * d) [.ref v0, .int v1] z h h' (some (.int r))) (H_X6_readTruth : ∀ {z : Sh} {h : Hp} {v0 : Nat} {v1 : Int32} {r : Int32} {h' : Hp}, g_X6_readTruth z h v0 v1 = some (r, h') → Ct l s0 E yX6_readTruth cX6_readTruth 4 (some .boolean) (7 + d) (134 + 60 * d) [.ref v0, .int v1] z h h' (some (.int r))) (H_X6_readBoth : ∀ {z : Sh} {h : Hp} {v0 : Nat} {v1 : Int32} {r : Int32} {h' : Hp}, g_X6_readBoth z h v0 v1 = some (r, h') → Ct l s0 E yX6_readBoth cX6_readBoth 4 (some .boolean) (7 + d) (134 + 60 * d) [.ref v0, .int v1] z h h' (some (.int r))) (H_X6_readUnit : ∀ {z : Sh} {h : Hp} {v0 : Nat} {v1 : Int32} {r : Int32} {h' : Hp}, g_X6_readUnit z h v0 v1 = some (r, h') → Ct l s0 E yX6_readUnit cX6_readUnit 4 (some .boolean) (7 + d) (134 + 60 * d) [.ref v0, .int v1] z h h' (some (.int r))) : ∀ (i : Nat), ∀ (h : Hp) (v0 : Nat) (v1 : Int32) (v2 : Int32) (v3 : Int32) (H : Heap) (locs : List Loc) (ls : Array Slot), Pw s0 s E z h H locs → lv_has ls 5 [(0, .ref v0), (1, .int v1), (2, .int v2), (3, .int v3)] → f_X6_readSum_8 n g_X6_readSum g_X6_readTerm g_X6_readAtom g_X6_readTruth g_X6_readBoth g_X6_readUnit z i h v0 v1 v2 v3 = some (r, h') → W p l e (rmO (7 + (d + 1)) (134 + 60 * (d + 1))) s m args below meth c H locs 0 0 (Zt below s0 E z h' (some (.int r)) args s 0 0) (F0 m 8 ls []) := by
  have hx := B.1
  have hb := B.2.1
  intro i
  induction i with
  | zero =>
    intro h v0 v1 v2 v3 H locs ls hw hl hf
    have hf := (f_X6_readSum_8.eq_1 ..).symm.trans hf
    cases hf
  | succ i ih =>
    intro h v0 v1 v2 v3 H locs ls hw hl hf
    have hf := (f_X6_readSum_8.eq_2 ..).symm.trans hf
    refine lv_iload_n hx hb dX6_readSum_8 rfl (lv_at hl 3 rfl) ?_
    refine lv_aload_n hx hb dX6_readSum_9 rfl (lv_at hl 0 rfl) ?_
    obtain ⟨x1, e, hf⟩ := ob hf
    refine q_getI e B hw fd_6_3.1 fd_6_3.2.1 fd_6_3.2.2.1 fd_6_3.2.2.2.1 fd_6_3.2.2.2.2 rfl tw_1_108 dX6_readSum_10 ?_
    refine lv_icmp_ge (tgt := 77) hx hb dX6_readSum_13 (by decide) (fun c2 => ?_) (fun c2 => ?_)
    · have hf := (if_pos c2).symm.trans hf
      refine lv_iload_n hx hb dX6_readSum_77 rfl (lv_at hl 2 rfl) ?_
      obtain ⟨x3, e, hf⟩ := ob hf
      obtain ⟨e1, e⟩ := if_some e
      cases e
      obtain ⟨rfl, rfl⟩ := so2 hf
      exact q_zret e1 B hw hz hc0 hr hlk dX6_readSum_78
    · have hf := (if_neg c2).symm.trans hf
      refine lv_iload_n hx hb dX6_readSum_16 rfl (lv_at hl 2 rfl) ?_
      refine lv_if_eq (tgt := 77) hx hb dX6_readSum_17 (by decide) (fun c4 => ?_) (fun c4 => ?_)
      · have hf := (if_pos c4).symm.trans hf
        refine lv_iload_n hx hb dX6_readSum_77 rfl (lv_at hl 2 rfl) ?_
        obtain ⟨x5, e, hf⟩ := ob hf
        obtain ⟨e1, e⟩ := if_some e
        cases e
        obtain ⟨rfl, rfl⟩ := so2 hf
        exact q_zret e1 B hw hz hc0 hr hlk dX6_readSum_78
      · have hf := (if_neg c4).symm.trans hf
        refine lv_aload_n hx hb dX6_readSum_20 rfl (lv_at hl 0 rfl) ?_
        refine q_ldcS (tx := "+") G (i := 44) (List.mem_of_getElem? (i := 34) (by decide +kernel)) B hw dX6_readSum_21 ?_
        obtain ⟨x6, e, hf⟩ := ob hf
        refine q_callV (As := [.ref (z.st 44)]) (rest := []) (st1 := [.int x6]) (c_X6_is G e) B hw hz hc0 (k_X6_is e) (by decide) (ci := 6) rfl rfl my_X6_is mv_X6_is tw_3_42 ⟨by simp only [rmO, rmA]; omega, by simp only [rmO, rmA]; omega⟩ ⟨Nat.zero_le _, Nat.zero_le _⟩ rfl hl.1 rfl rfl (Nat.le_of_ble_eq_true rfl) dX6_readSum_23 (fun H locs hw => ?_)
        refine lv_if_ne (tgt := 38) hx hb dX6_readSum_26 (by decide) (fun c7 => ?_) (fun c7 => ?_)
        · have hf := (if_neg c7).symm.trans hf
          exact w_X6_readSum_38 G B hz hc0 hr hlk H_X6_readSum H_X6_readTerm H_X6_readAtom H_X6_readTruth H_X6_readBoth H_X6_readUnit ih h v0 v1 v3 _ _ _ hw (lv_sub hl [0, 1, 3] rfl) hf
        · have hf := (if_pos c7).symm.trans hf
          refine lv_aload_n hx hb dX6_readSum_29 rfl (lv_at hl 0 rfl) ?_
          refine q_ldcS (tx := "-") G (i := 45) (List.mem_of_getElem? (i := 35) (by decide +kernel)) B hw dX6_readSum_30 ?_
          obtain ⟨x8, e, hf⟩ := ob hf
          refine q_callV (As := [.ref (z.st 45)]) (rest := []) (st1 := [.int x8]) (c_X6_is G e) B hw hz hc0 (k_X6_is e) (by decide) (ci := 6) rfl rfl my_X6_is mv_X6_is tw_3_42 ⟨by simp only [rmO, rmA]; omega, by simp only [rmO, rmA]; omega⟩ ⟨Nat.zero_le _, Nat.zero_le _⟩ rfl hl.1 rfl rfl (Nat.le_of_ble_eq_true rfl) dX6_readSum_32 (fun H locs hw => ?_)
          refine lv_if_eq (tgt := 77) hx hb dX6_readSum_35 (by decide) (fun c9 => ?_) (fun c9 => ?_)
          · have hf := (if_pos c9).symm.trans hf
            refine lv_iload_n hx hb dX6_readSum_77 rfl (lv_at hl 2 rfl) ?_
            obtain ⟨x10, e, hf⟩ := ob hf
            obtain ⟨e1, e⟩ := if_some e
            cases e
            obtain ⟨rfl, rfl⟩ := so2 hf
            exact q_zret e1 B hw hz hc0 hr hlk dX6_readSum_78
          · have hf := (if_neg c9).symm.trans hf
            exact w_X6_readSum_38 G B hz hc0 hr hlk H_X6_readSum H_X6_readTerm H_X6_readAtom H_X6_readTruth H_X6_readBoth H_X6_readUnit ih h v0 v1 v3 _ _ _ hw (lv_sub hl [0, 1, 3] rfl) hf
set_option maxHeartbeats 4000000 in
theorem co_X6_readSum {l : Launch} {s0 : State} {E : Ev} (G : Gl s0 E) {n : Nat} {d : Nat} {g_X6_readSum : Sh → Hp → Nat → Int32 → Option (Int32 × Hp)} {g_X6_readTerm : Sh → Hp → Nat → Int32 → Option (Int32 × Hp)} {g_X6_readAtom : Sh → Hp → Nat → Int32 → Option (Int32 × Hp)} {g_X6_readTruth : Sh → Hp → Nat → Int32 → Option (Int32 × Hp)} {g_X6_readBoth : Sh → Hp → Nat → Int32 → Option (Int32 × Hp)} {g_X6_readUnit : Sh → Hp → Nat → Int32 → Option (Int32 × Hp)} (H_X6_readSum : ∀ {z : Sh} {h : Hp} {v0 : Nat} {v1 : Int32} {r : Int32} {h' : Hp}, g_X6_readSum z h v0 v1 = some (r, h') → Ct l s0 E yX6_readSum cX6_readSum 5 (some .boolean) (7 + d) (134 + 60 * d) [.ref v0, .int v1] z h h' (some (.int r))) (H_X6_readTerm : ∀ {z : Sh} {h : Hp} {v0 : Nat} {v1 : Int32} {r : Int32} {h' : Hp}, g_X6_readTerm z h v0 v1 = some (r, h') → Ct l s0 E yX6_readTerm cX6_readTerm 4 (some .boolean) (7 + d) (134 + 60 * d) [.ref v0, .int v1] z h h' (some (.int r))) (H_X6_readAtom : ∀ {z : Sh} {h : Hp} {v0 : Nat} {v1 : Int32} {r : Int32} {h' : Hp}, g_X6_readAtom z h v0 v1 = some (r, h') → Ct l s0 E yX6_readAtom cX6_readAtom 3 (some .boolean) (7 + d) (134 + 60 * d) [.ref v0, .int v1] z h h' (some (.int r))) (H_X6_readTruth : ∀ {z : Sh} {h : Hp} {v0 : Nat} {v1 : Int32} {r : Int32} {h' : Hp}, g_X6_readTruth z h v0 v1 = some (r, h') → Ct l s0 E yX6_readTruth cX6_readTruth 4 (some .boolean) (7 + d) (134 + 60 * d) [.ref v0, .int v1] z h h' (some (.int r))) (H_X6_readBoth : ∀ {z : Sh} {h : Hp} {v0 : Nat} {v1 : Int32} {r : Int32} {h' : Hp}, g_X6_readBoth z h v0 v1 = some (r, h') → Ct l s0 E yX6_readBoth cX6_readBoth 4 (some .boolean) (7 + d) (134 + 60 * d) [.ref v0, .int v1] z h h' (some (.int r))) (H_X6_readUnit : ∀ {z : Sh} {h : Hp} {v0 : Nat} {v1 : Int32} {r : Int32} {h' : Hp}, g_X6_readUnit z h v0 v1 = some (r, h') → Ct l s0 E yX6_readUnit cX6_readUnit 4 (some .boolean) (7 + d) (134 + 60 * d) [.ref v0, .int v1] z h h' (some (.int r))) {z : Sh} {h : Hp} {v0 : Nat} {v1 : Int32} {r : Int32} {h' : Hp} (hf : F_X6_readSum n g_X6_readSum g_X6_readTerm g_X6_readAtom g_X6_readTruth g_X6_readBoth g_X6_readUnit z h v0 v1 = some (r, h')) : Ct l s0 E yX6_readSum cX6_readSum 5 (some .boolean) (7 + (d + 1)) (134 + 60 * (d + 1)) [.ref v0, .int v1] z h h' (some (.int r)) := by
  refine Ct.of G (by decide) (Nat.le_of_ble_eq_true rfl) ?_
  intro p e s m below meth c ls B hw hz hc0 hr hlk hl
  have B : Bd p s0 s E m c cX6_readSum 5 RX6 := B
  have hx := B.1
  have hb := B.2.1
  have hl : lv_has ls 5 [(0, .ref v0), (1, .int v1)] := hl
  unfold F_X6_readSum at hf
  obtain ⟨_, hf⟩ := if_some hf
  refine lv_aload_n hx hb dX6_readSum_0 rfl (lv_at hl 0 rfl) ?_
  refine lv_iload_n hx hb dX6_readSum_1 rfl (lv_at hl 1 rfl) ?_
  obtain ⟨_, eK, hf⟩ := ob hf
  obtain ⟨⟨x1, h2⟩, e, hf⟩ := ob hf
  refine q_callV (As := [.int v1]) (rest := []) (st1 := [.int x1]) (H_X6_readTerm e) B hw hz hc0 ((if_some eK).1) (by decide) (ci := 6) rfl rfl my_X6_readTerm mv_X6_readTerm tw_3_110 ⟨by simp only [rmO, rmA]; omega, by simp only [rmO, rmA]; omega⟩ ⟨Nat.zero_le _, Nat.zero_le _⟩ rfl hl.1 rfl rfl (Nat.le_of_ble_eq_true rfl) dX6_readSum_2 (fun H locs hw => ?_)
  refine lv_istore_n (lv' := [(2, .int x1), (0, .ref v0), (1, .int v1)]) hx hb dX6_readSum_5 rfl hl (by decide) rfl (fun ls hl => ?_)
  refine lv_iconst (v := 0) hx hb dX6_readSum_6 (by decide) ?_
  refine lv_istore_n (lv' := [(3, .int 0), (2, .int x1), (0, .ref v0), (1, .int v1)]) hx hb dX6_readSum_7 rfl hl (by decide) rfl (fun ls hl => ?_)
  exact w_X6_readSum_8 G B hz hc0 hr hlk H_X6_readSum H_X6_readTerm H_X6_readAtom H_X6_readTruth H_X6_readBoth H_X6_readUnit  n h2 v0 v1 x1 0 _ _ _ hw (lv_sub hl [2, 3, 1, 0] rfl) hf
set_option maxHeartbeats 4000000 in
theorem w_X6_readTerm_8 {p : Program} {l : Launch} {e : Env} {s : State} {m : MethodId} {args : Array Value} {below : List Frame} {meth : Method} {c : Code} {s0 : State} {E : Ev} {z : Sh} {d : Nat} {g_X6_readSum : Sh → Hp → Nat → Int32 → Option (Int32 × Hp)} {g_X6_readTerm : Sh → Hp → Nat → Int32 → Option (Int32 × Hp)} {g_X6_readAtom : Sh → Hp → Nat → Int32 → Option (Int32 × Hp)} {g_X6_readTruth : Sh → Hp → Nat → Int32 → Option (Int32 × Hp)} {g_X6_readBoth : Sh → Hp → Nat → Int32 → Option (Int32 × Hp)} {g_X6_readUnit : Sh → Hp → Nat → Int32 → Option (Int32 × Hp)} {n : Nat} {r : Int32} {h' : Hp} (G : Gl s0 E) (B : Bd p s0 s E m c cX6_readTerm 4 RX6) (hz : s0.heap.size ≤ z.sz) (hc0 : s.heap.size + 0 = z.sz) (hr : meth.sig.returnType = (some .boolean)) (hlk : meth.locks = false) (H_X6_readSum : ∀ {z : Sh} {h : Hp} {v0 : Nat} {v1 : Int32} {r : Int32} {h' : Hp}, g_X6_readSum z h v0 v1 = some (r, h') → Ct l s0 E yX6_readSum cX6_readSum 5 (some .boolean) (7 + d) (134 + 60 * d) [.ref v0, .int v1] z h h' (some (.int r))) (H_X6_readTerm : ∀ {z : Sh} {h : Hp} {v0 : Nat} {v1 : Int32} {r : Int32} {h' : Hp}, g_X6_readTerm z h v0 v1 = some (r, h') → Ct l s0 E yX6_readTerm cX6_readTerm 4 (some .boolean) (7 + d) (134 + 60 * d) [.ref v0, .int v1] z h h' (some (.int r))) (H_X6_readAtom : ∀ {z : Sh} {h : Hp} {v0 : Nat} {v1 : Int32} {r : Int32} {h' : Hp}, g_X6_readAtom z h v0 v1 = some (r, h') → Ct l s0 E yX6_readAtom cX6_readAtom 3 (some .boolean) (7 + d) (134 + 60 * d) [.ref v0, .int v1] z h h' (some (.int r))) (H_X6_readTruth : ∀ {z : Sh} {h : Hp} {v0 : Nat} {v1 : Int32} {r : Int32} {h' : Hp}, g_X6_readTruth z h v0 v1 = some (r, h') → Ct l s0 E yX6_readTruth cX6_readTruth 4 (some .boolean) (7 + d) (134 + 60 * d) [.ref v0, .int v1] z h h' (some (.int r))) (H_X6_readBoth : ∀ {z : Sh} {h : Hp} {v0 : Nat} {v1 : Int32} {r : Int32} {h' : Hp}, g_X6_readBoth z h v0 v1 = some (r, h') → Ct l s0 E yX6_readBoth cX6_readBoth 4 (some .boolean) (7 + d) (134 + 60 * d) [.ref v0, .int v1] z h h' (some (.int r))) (H_X6_readUnit : ∀ {z : Sh} {h : Hp} {v0 : Nat} {v1 : Int32} {r : Int32} {h' : Hp}, g_X6_readUnit z h v0 v1 = some (r, h') → Ct l s0 E yX6_readUnit cX6_readUnit 4 (some .boolean) (7 + d) (134 + 60 * d) [.ref v0, .int v1] z h h' (some (.int r))) : ∀ (i : Nat), ∀ (h : Hp) (v0 : Nat) (v1 : Int32) (v2 : Int32) (v3 : Int32) (H : Heap) (locs : List Loc) (ls : Array Slot), Pw s0 s E z h H locs → lv_has ls 4 [(0, .ref v0), (1, .int v1), (2, .int v2), (3, .int v3)] → f_X6_readTerm_8 n g_X6_readSum g_X6_readTerm g_X6_readAtom g_X6_readTruth g_X6_readBoth g_X6_readUnit z i h v0 v1 v2 v3 = some (r, h') → W p l e (rmO (7 + (d + 1)) (134 + 60 * (d + 1))) s m args below meth c H locs 0 0 (Zt below s0 E z h' (some (.int r)) args s 0 0) (F0 m 8 ls []) := by
  have hx := B.1
  have hb := B.2.1
  intro i
  induction i with
  | zero =>
    intro h v0 v1 v2 v3 H locs ls hw hl hf
    have hf := (f_X6_readTerm_8.eq_1 ..).symm.trans hf
    cases hf
  | succ i ih =>
    intro h v0 v1 v2 v3 H locs ls hw hl hf
    have hf := (f_X6_readTerm_8.eq_2 ..).symm.trans hf
    refine lv_iload_n hx hb dX6_readTerm_8 rfl (lv_at hl 3 rfl) ?_
    refine lv_aload_n hx hb dX6_readTerm_9 rfl (lv_at hl 0 rfl) ?_
    obtain ⟨x1, e, hf⟩ := ob hf
    refine q_getI e B hw fd_6_3.1 fd_6_3.2.1 fd_6_3.2.2.1 fd_6_3.2.2.2.1 fd_6_3.2.2.2.2 rfl tw_1_108 dX6_readTerm_10 ?_
    refine lv_icmp_ge (tgt := 51) hx hb dX6_readTerm_13 (by decide) (fun c2 => ?_) (fun c2 => ?_)
    · have hf := (if_pos c2).symm.trans hf
      refine lv_iload_n hx hb dX6_readTerm_51 rfl (lv_at hl 2 rfl) ?_
      obtain ⟨x3, e, hf⟩ := ob hf
      obtain ⟨e1, e⟩ := if_some e
      cases e
      obtain ⟨rfl, rfl⟩ := so2 hf
      exact q_zret e1 B hw hz hc0 hr hlk dX6_readTerm_52
    · have hf := (if_neg c2).symm.trans hf
      refine lv_iload_n hx hb dX6_readTerm_16 rfl (lv_at hl 2 rfl) ?_
      refine lv_if_eq (tgt := 51) hx hb dX6_readTerm_17 (by decide) (fun c4 => ?_) (fun c4 => ?_)
      · have hf := (if_pos c4).symm.trans hf
        refine lv_iload_n hx hb dX6_readTerm_51 rfl (lv_at hl 2 rfl) ?_
        obtain ⟨x5, e, hf⟩ := ob hf
        obtain ⟨e1, e⟩ := if_some e
        cases e
        obtain ⟨rfl, rfl⟩ := so2 hf
        exact q_zret e1 B hw hz hc0 hr hlk dX6_readTerm_52
      · have hf := (if_neg c4).symm.trans hf
        refine lv_aload_n hx hb dX6_readTerm_20 rfl (lv_at hl 0 rfl) ?_
        refine q_ldcS (tx := "*") G (i := 43) (List.mem_of_getElem? (i := 33) (by decide +kernel)) B hw dX6_readTerm_21 ?_
        obtain ⟨x6, e, hf⟩ := ob hf
        refine q_callV (As := [.ref (z.st 43)]) (rest := []) (st1 := [.int x6]) (c_X6_is G e) B hw hz hc0 (k_X6_is e) (by decide) (ci := 6) rfl rfl my_X6_is mv_X6_is tw_3_42 ⟨by simp only [rmO, rmA]; omega, by simp only [rmO, rmA]; omega⟩ ⟨Nat.zero_le _, Nat.zero_le _⟩ rfl hl.1 rfl rfl (Nat.le_of_ble_eq_true rfl) dX6_readTerm_23 (fun H locs hw => ?_)
        refine lv_if_eq (tgt := 51) hx hb dX6_readTerm_26 (by decide) (fun c7 => ?_) (fun c7 => ?_)
        · have hf := (if_pos c7).symm.trans hf
          refine lv_iload_n hx hb dX6_readTerm_51 rfl (lv_at hl 2 rfl) ?_
          obtain ⟨x8, e, hf⟩ := ob hf
          obtain ⟨e1, e⟩ := if_some e
          cases e
          obtain ⟨rfl, rfl⟩ := so2 hf
          exact q_zret e1 B hw hz hc0 hr hlk dX6_readTerm_52
        · have hf := (if_neg c7).symm.trans hf
          refine lv_aload_n hx hb dX6_readTerm_29 rfl (lv_at hl 0 rfl) ?_
          obtain ⟨h9, e, hf⟩ := ob hf
          refine q_callV (As := []) (rest := []) (st1 := []) (c_X6_next G e) B hw hz hc0 (k_X6_next e) (by decide) (ci := 6) rfl rfl my_X6_next mv_X6_next tw_2_171 ⟨by simp only [rmO, rmA]; omega, by simp only [rmO, rmA]; omega⟩ ⟨Nat.zero_le _, Nat.zero_le _⟩ rfl hl.1 rfl rfl (Nat.le_of_ble_eq_true rfl) dX6_readTerm_30 (fun H locs hw => ?_)
          refine lv_aload_n hx hb dX6_readTerm_33 rfl (lv_at hl 0 rfl) ?_
          refine lv_iload_n hx hb dX6_readTerm_34 rfl (lv_at hl 1 rfl) ?_
          obtain ⟨_, eK, hf⟩ := ob hf
          obtain ⟨⟨x10, h11⟩, e, hf⟩ := ob hf
          refine q_callV (As := [.int v1]) (rest := []) (st1 := [.int x10]) (H_X6_readAtom e) B hw hz hc0 ((if_some eK).1) (by decide) (ci := 6) rfl rfl my_X6_readAtom mv_X6_readAtom tw_3_114 ⟨by simp only [rmO, rmA]; omega, by simp only [rmO, rmA]; omega⟩ ⟨Nat.zero_le _, Nat.zero_le _⟩ rfl hl.1 rfl rfl (Nat.le_of_ble_eq_true rfl) dX6_readTerm_35 (fun H locs hw => ?_)
          refine lv_istore_n (lv' := [(2, .int x10), (0, .ref v0), (1, .int v1), (3, .int v3)]) hx hb dX6_readTerm_38 rfl hl (by decide) rfl (fun ls hl => ?_)
          refine lv_aload_n hx hb dX6_readTerm_39 rfl (lv_at hl 1 rfl) ?_
          refine lv_bipush (v := (-3)) hx hb dX6_readTerm_40 (by decide) ?_
          obtain ⟨h12, e, hf⟩ := ob hf
          refine q_callV (As := [.int (-3)]) (rest := []) (st1 := []) (c_X6_emit G e) B hw hz hc0 (k_X6_emit e) (by decide) (ci := 6) rfl rfl my_X6_emit mv_X6_emit tw_3_118 ⟨by simp only [rmO, rmA]; omega, by simp only [rmO, rmA]; omega⟩ ⟨Nat.zero_le _, Nat.zero_le _⟩ rfl hl.1 rfl rfl (Nat.le_of_ble_eq_true rfl) dX6_readTerm_42 (fun H locs hw => ?_)
          obtain ⟨x13, e, hf⟩ := ob hf
          refine lv_iinc (v := x13) (lv' := [(3, .int x13), (2, .int x10), (0, .ref v0), (1, .int v1)]) hx hb dX6_readTerm_45 hl (k := 3) rfl (Option.some.inj e) (by decide) rfl (fun ls hl => ?_)
          refine lv_goto (tgt := 8) hx hb dX6_readTerm_48 (by decide) ?_
          exact ih h12 v0 v1 x10 x13 _ _ _ hw (lv_sub hl [2, 3, 1, 0] rfl) hf
set_option maxHeartbeats 4000000 in
theorem co_X6_readTerm {l : Launch} {s0 : State} {E : Ev} (G : Gl s0 E) {n : Nat} {d : Nat} {g_X6_readSum : Sh → Hp → Nat → Int32 → Option (Int32 × Hp)} {g_X6_readTerm : Sh → Hp → Nat → Int32 → Option (Int32 × Hp)} {g_X6_readAtom : Sh → Hp → Nat → Int32 → Option (Int32 × Hp)} {g_X6_readTruth : Sh → Hp → Nat → Int32 → Option (Int32 × Hp)} {g_X6_readBoth : Sh → Hp → Nat → Int32 → Option (Int32 × Hp)} {g_X6_readUnit : Sh → Hp → Nat → Int32 → Option (Int32 × Hp)} (H_X6_readSum : ∀ {z : Sh} {h : Hp} {v0 : Nat} {v1 : Int32} {r : Int32} {h' : Hp}, g_X6_readSum z h v0 v1 = some (r, h') → Ct l s0 E yX6_readSum cX6_readSum 5 (some .boolean) (7 + d) (134 + 60 * d) [.ref v0, .int v1] z h h' (some (.int r))) (H_X6_readTerm : ∀ {z : Sh} {h : Hp} {v0 : Nat} {v1 : Int32} {r : Int32} {h' : Hp}, g_X6_readTerm z h v0 v1 = some (r, h') → Ct l s0 E yX6_readTerm cX6_readTerm 4 (some .boolean) (7 + d) (134 + 60 * d) [.ref v0, .int v1] z h h' (some (.int r))) (H_X6_readAtom : ∀ {z : Sh} {h : Hp} {v0 : Nat} {v1 : Int32} {r : Int32} {h' : Hp}, g_X6_readAtom z h v0 v1 = some (r, h') → Ct l s0 E yX6_readAtom cX6_readAtom 3 (some .boolean) (7 + d) (134 + 60 * d) [.ref v0, .int v1] z h h' (some (.int r))) (H_X6_readTruth : ∀ {z : Sh} {h : Hp} {v0 : Nat} {v1 : Int32} {r : Int32} {h' : Hp}, g_X6_readTruth z h v0 v1 = some (r, h') → Ct l s0 E yX6_readTruth cX6_readTruth 4 (some .boolean) (7 + d) (134 + 60 * d) [.ref v0, .int v1] z h h' (some (.int r))) (H_X6_readBoth : ∀ {z : Sh} {h : Hp} {v0 : Nat} {v1 : Int32} {r : Int32} {h' : Hp}, g_X6_readBoth z h v0 v1 = some (r, h') → Ct l s0 E yX6_readBoth cX6_readBoth 4 (some .boolean) (7 + d) (134 + 60 * d) [.ref v0, .int v1] z h h' (some (.int r))) (H_X6_readUnit : ∀ {z : Sh} {h : Hp} {v0 : Nat} {v1 : Int32} {r : Int32} {h' : Hp}, g_X6_readUnit z h v0 v1 = some (r, h') → Ct l s0 E yX6_readUnit cX6_readUnit 4 (some .boolean) (7 + d) (134 + 60 * d) [.ref v0, .int v1] z h h' (some (.int r))) {z : Sh} {h : Hp} {v0 : Nat} {v1 : Int32} {r : Int32} {h' : Hp} (hf : F_X6_readTerm n g_X6_readSum g_X6_readTerm g_X6_readAtom g_X6_readTruth g_X6_readBoth g_X6_readUnit z h v0 v1 = some (r, h')) : Ct l s0 E yX6_readTerm cX6_readTerm 4 (some .boolean) (7 + (d + 1)) (134 + 60 * (d + 1)) [.ref v0, .int v1] z h h' (some (.int r)) := by
  refine Ct.of G (by decide) (Nat.le_of_ble_eq_true rfl) ?_
  intro p e s m below meth c ls B hw hz hc0 hr hlk hl
  have B : Bd p s0 s E m c cX6_readTerm 4 RX6 := B
  have hx := B.1
  have hb := B.2.1
  have hl : lv_has ls 4 [(0, .ref v0), (1, .int v1)] := hl
  unfold F_X6_readTerm at hf
  obtain ⟨_, hf⟩ := if_some hf
  refine lv_aload_n hx hb dX6_readTerm_0 rfl (lv_at hl 0 rfl) ?_
  refine lv_iload_n hx hb dX6_readTerm_1 rfl (lv_at hl 1 rfl) ?_
  obtain ⟨_, eK, hf⟩ := ob hf
  obtain ⟨⟨x1, h2⟩, e, hf⟩ := ob hf
  refine q_callV (As := [.int v1]) (rest := []) (st1 := [.int x1]) (H_X6_readAtom e) B hw hz hc0 ((if_some eK).1) (by decide) (ci := 6) rfl rfl my_X6_readAtom mv_X6_readAtom tw_3_114 ⟨by simp only [rmO, rmA]; omega, by simp only [rmO, rmA]; omega⟩ ⟨Nat.zero_le _, Nat.zero_le _⟩ rfl hl.1 rfl rfl (Nat.le_of_ble_eq_true rfl) dX6_readTerm_2 (fun H locs hw => ?_)
  refine lv_istore_n (lv' := [(2, .int x1), (0, .ref v0), (1, .int v1)]) hx hb dX6_readTerm_5 rfl hl (by decide) rfl (fun ls hl => ?_)
  refine lv_iconst (v := 0) hx hb dX6_readTerm_6 (by decide) ?_
  refine lv_istore_n (lv' := [(3, .int 0), (2, .int x1), (0, .ref v0), (1, .int v1)]) hx hb dX6_readTerm_7 rfl hl (by decide) rfl (fun ls hl => ?_)
  exact w_X6_readTerm_8 G B hz hc0 hr hlk H_X6_readSum H_X6_readTerm H_X6_readAtom H_X6_readTruth H_X6_readBoth H_X6_readUnit  n h2 v0 v1 x1 0 _ _ _ hw (lv_sub hl [2, 3, 1, 0] rfl) hf
set_option maxHeartbeats 4000000 in
theorem w_X6_readAtom_143 {p : Program} {l : Launch} {e : Env} {s : State} {m : MethodId} {args : Array Value} {below : List Frame} {meth : Method} {c : Code} {s0 : State} {E : Ev} {z : Sh} {d : Nat} {g_X6_readSum : Sh → Hp → Nat → Int32 → Option (Int32 × Hp)} {g_X6_readTerm : Sh → Hp → Nat → Int32 → Option (Int32 × Hp)} {g_X6_readAtom : Sh → Hp → Nat → Int32 → Option (Int32 × Hp)} {g_X6_readTruth : Sh → Hp → Nat → Int32 → Option (Int32 × Hp)} {g_X6_readBoth : Sh → Hp → Nat → Int32 → Option (Int32 × Hp)} {g_X6_readUnit : Sh → Hp → Nat → Int32 → Option (Int32 × Hp)} {n : Nat} {r : Int32} {h' : Hp} (G : Gl s0 E) (B : Bd p s0 s E m c cX6_readAtom 3 RX6) (hz : s0.heap.size ≤ z.sz) (hc0 : s.heap.size + 0 = z.sz) (hr : meth.sig.returnType = (some .boolean)) (hlk : meth.locks = false) (H_X6_readSum : ∀ {z : Sh} {h : Hp} {v0 : Nat} {v1 : Int32} {r : Int32} {h' : Hp}, g_X6_readSum z h v0 v1 = some (r, h') → Ct l s0 E yX6_readSum cX6_readSum 5 (some .boolean) (7 + d) (134 + 60 * d) [.ref v0, .int v1] z h h' (some (.int r))) (H_X6_readTerm : ∀ {z : Sh} {h : Hp} {v0 : Nat} {v1 : Int32} {r : Int32} {h' : Hp}, g_X6_readTerm z h v0 v1 = some (r, h') → Ct l s0 E yX6_readTerm cX6_readTerm 4 (some .boolean) (7 + d) (134 + 60 * d) [.ref v0, .int v1] z h h' (some (.int r))) (H_X6_readAtom : ∀ {z : Sh} {h : Hp} {v0 : Nat} {v1 : Int32} {r : Int32} {h' : Hp}, g_X6_readAtom z h v0 v1 = some (r, h') → Ct l s0 E yX6_readAtom cX6_readAtom 3 (some .boolean) (7 + d) (134 + 60 * d) [.ref v0, .int v1] z h h' (some (.int r))) (H_X6_readTruth : ∀ {z : Sh} {h : Hp} {v0 : Nat} {v1 : Int32} {r : Int32} {h' : Hp}, g_X6_readTruth z h v0 v1 = some (r, h') → Ct l s0 E yX6_readTruth cX6_readTruth 4 (some .boolean) (7 + d) (134 + 60 * d) [.ref v0, .int v1] z h h' (some (.int r))) (H_X6_readBoth : ∀ {z : Sh} {h : Hp} {v0 : Nat} {v1 : Int32} {r : Int32} {h' : Hp}, g_X6_readBoth z h v0 v1 = some (r, h') → Ct l s0 E yX6_readBoth cX6_readBoth 4 (some .boolean) (7 + d) (134 + 60 * d) [.ref v0, .int v1] z h h' (some (.int r))) (H_X6_readUnit : ∀ {z : Sh} {h : Hp} {v0 : Nat} {v1 : Int32} {r : Int32} {h' : Hp}, g_X6_readUnit z h v0 v1 = some (r, h') → Ct l s0 E yX6_readUnit cX6_readUnit 4 (some .boolean) (7 + d) (134 + 60 * d) [.ref v0, .int v1] z h h' (some (.int r))) : ∀ (h : Hp) (v0 : Nat) (u0 : Int32) (H : Heap) (locs : List Loc) (ls : Array Slot), Pw s0 s E z h H locs → lv_has ls 3 [(0, .ref v0)] → f_X6_readAtom_143 n g_X6_readSum g_X6_readTerm g_X6_readAtom g_X6_readTruth g_X6_readBoth g_X6_readUnit z h v0 u0 = some (r, h') → W p l e (rmO (7 + (d + 1)) (134 + 60 * (d + 1))) s m args below meth c H locs 0 0 (Zt below s0 E z h' (some (.int r)) args s 0 0) (F0 m 143 ls [.int u0]) := by
  have hx := B.1
  have hb := B.2.1
  intro h v0 u0 H locs ls hw hl hf
  unfold f_X6_readAtom_143 at hf
  refine lv_istore_n (lv' := [(2, .int u0), (0, .ref v0)]) hx hb dX6_readAtom_143 rfl hl (by decide) rfl (fun ls hl => ?_)
  refine lv_aload_n hx hb dX6_readAtom_144 rfl (lv_at hl 1 rfl) ?_
  refine lv_bipush (v := (-10)) hx hb dX6_readAtom_145 (by decide) ?_
  obtain ⟨h1, e, hf⟩ := ob hf
  refine q_callV (As := [.int (-10)]) (rest := []) (st1 := []) (c_X6_emit G e) B hw hz hc0 (k_X6_emit e) (by decide) (ci := 6) rfl rfl my_X6_emit mv_X6_emit tw_3_118 ⟨by simp only [rmO, rmA]; omega, by simp only [rmO, rmA]; omega⟩ ⟨Nat.zero_le _, Nat.zero_le _⟩ rfl hl.1 rfl rfl (Nat.le_of_ble_eq_true rfl) dX6_readAtom_147 (fun H locs hw => ?_)
  refine lv_iload_n hx hb dX6_readAtom_150 rfl (lv_at hl 0 rfl) ?_
  obtain ⟨x2, e, hf⟩ := ob hf
  obtain ⟨e1, e⟩ := if_some e
  cases e
  obtain ⟨rfl, rfl⟩ := so2 hf
  exact q_zret e1 B hw hz hc0 hr hlk dX6_readAtom_151
set_option maxHeartbeats 4000000 in
theorem w_X6_readAtom_142 {p : Program} {l : Launch} {e : Env} {s : State} {m : MethodId} {args : Array Value} {below : List Frame} {meth : Method} {c : Code} {s0 : State} {E : Ev} {z : Sh} {d : Nat} {g_X6_readSum : Sh → Hp → Nat → Int32 → Option (Int32 × Hp)} {g_X6_readTerm : Sh → Hp → Nat → Int32 → Option (Int32 × Hp)} {g_X6_readAtom : Sh → Hp → Nat → Int32 → Option (Int32 × Hp)} {g_X6_readTruth : Sh → Hp → Nat → Int32 → Option (Int32 × Hp)} {g_X6_readBoth : Sh → Hp → Nat → Int32 → Option (Int32 × Hp)} {g_X6_readUnit : Sh → Hp → Nat → Int32 → Option (Int32 × Hp)} {n : Nat} {r : Int32} {h' : Hp} (G : Gl s0 E) (B : Bd p s0 s E m c cX6_readAtom 3 RX6) (hz : s0.heap.size ≤ z.sz) (hc0 : s.heap.size + 0 = z.sz) (hr : meth.sig.returnType = (some .boolean)) (hlk : meth.locks = false) (H_X6_readSum : ∀ {z : Sh} {h : Hp} {v0 : Nat} {v1 : Int32} {r : Int32} {h' : Hp}, g_X6_readSum z h v0 v1 = some (r, h') → Ct l s0 E yX6_readSum cX6_readSum 5 (some .boolean) (7 + d) (134 + 60 * d) [.ref v0, .int v1] z h h' (some (.int r))) (H_X6_readTerm : ∀ {z : Sh} {h : Hp} {v0 : Nat} {v1 : Int32} {r : Int32} {h' : Hp}, g_X6_readTerm z h v0 v1 = some (r, h') → Ct l s0 E yX6_readTerm cX6_readTerm 4 (some .boolean) (7 + d) (134 + 60 * d) [.ref v0, .int v1] z h h' (some (.int r))) (H_X6_readAtom : ∀ {z : Sh} {h : Hp} {v0 : Nat} {v1 : Int32} {r : Int32} {h' : Hp}, g_X6_readAtom z h v0 v1 = some (r, h') → Ct l s0 E yX6_readAtom cX6_readAtom 3 (some .boolean) (7 + d) (134 + 60 * d) [.ref v0, .int v1] z h h' (some (.int r))) (H_X6_readTruth : ∀ {z : Sh} {h : Hp} {v0 : Nat} {v1 : Int32} {r : Int32} {h' : Hp}, g_X6_readTruth z h v0 v1 = some (r, h') → Ct l s0 E yX6_readTruth cX6_readTruth 4 (some .boolean) (7 + d) (134 + 60 * d) [.ref v0, .int v1] z h h' (some (.int r))) (H_X6_readBoth : ∀ {z : Sh} {h : Hp} {v0 : Nat} {v1 : Int32} {r : Int32} {h' : Hp}, g_X6_readBoth z h v0 v1 = some (r, h') → Ct l s0 E yX6_readBoth cX6_readBoth 4 (some .boolean) (7 + d) (134 + 60 * d) [.ref v0, .int v1] z h h' (some (.int r))) (H_X6_readUnit : ∀ {z : Sh} {h : Hp} {v0 : Nat} {v1 : Int32} {r : Int32} {h' : Hp}, g_X6_readUnit z h v0 v1 = some (r, h') → Ct l s0 E yX6_readUnit cX6_readUnit 4 (some .boolean) (7 + d) (134 + 60 * d) [.ref v0, .int v1] z h h' (some (.int r))) : ∀ (h : Hp) (v0 : Nat) (H : Heap) (locs : List Loc) (ls : Array Slot), Pw s0 s E z h H locs → lv_has ls 3 [(0, .ref v0)] → f_X6_readAtom_142 n g_X6_readSum g_X6_readTerm g_X6_readAtom g_X6_readTruth g_X6_readBoth g_X6_readUnit z h v0 = some (r, h') → W p l e (rmO (7 + (d + 1)) (134 + 60 * (d + 1))) s m args below meth c H locs 0 0 (Zt below s0 E z h' (some (.int r)) args s 0 0) (F0 m 142 ls []) := by
  have hx := B.1
  have hb := B.2.1
  intro h v0 H locs ls hw hl hf
  unfold f_X6_readAtom_142 at hf
  refine lv_iconst (v := 0) hx hb dX6_readAtom_142 (by decide) ?_
  exact w_X6_readAtom_143 G B hz hc0 hr hlk H_X6_readSum H_X6_readTerm H_X6_readAtom H_X6_readTruth H_X6_readBoth H_X6_readUnit  h v0 0 _ _ _ hw (lv_sub hl [0] rfl) hf
set_option maxHeartbeats 4000000 in
theorem co_X6_readAtom {l : Launch} {s0 : State} {E : Ev} (G : Gl s0 E) {n : Nat} {d : Nat} {g_X6_readSum : Sh → Hp → Nat → Int32 → Option (Int32 × Hp)} {g_X6_readTerm : Sh → Hp → Nat → Int32 → Option (Int32 × Hp)} {g_X6_readAtom : Sh → Hp → Nat → Int32 → Option (Int32 × Hp)} {g_X6_readTruth : Sh → Hp → Nat → Int32 → Option (Int32 × Hp)} {g_X6_readBoth : Sh → Hp → Nat → Int32 → Option (Int32 × Hp)} {g_X6_readUnit : Sh → Hp → Nat → Int32 → Option (Int32 × Hp)} (H_X6_readSum : ∀ {z : Sh} {h : Hp} {v0 : Nat} {v1 : Int32} {r : Int32} {h' : Hp}, g_X6_readSum z h v0 v1 = some (r, h') → Ct l s0 E yX6_readSum cX6_readSum 5 (some .boolean) (7 + d) (134 + 60 * d) [.ref v0, .int v1] z h h' (some (.int r))) (H_X6_readTerm : ∀ {z : Sh} {h : Hp} {v0 : Nat} {v1 : Int32} {r : Int32} {h' : Hp}, g_X6_readTerm z h v0 v1 = some (r, h') → Ct l s0 E yX6_readTerm cX6_readTerm 4 (some .boolean) (7 + d) (134 + 60 * d) [.ref v0, .int v1] z h h' (some (.int r))) (H_X6_readAtom : ∀ {z : Sh} {h : Hp} {v0 : Nat} {v1 : Int32} {r : Int32} {h' : Hp}, g_X6_readAtom z h v0 v1 = some (r, h') → Ct l s0 E yX6_readAtom cX6_readAtom 3 (some .boolean) (7 + d) (134 + 60 * d) [.ref v0, .int v1] z h h' (some (.int r))) (H_X6_readTruth : ∀ {z : Sh} {h : Hp} {v0 : Nat} {v1 : Int32} {r : Int32} {h' : Hp}, g_X6_readTruth z h v0 v1 = some (r, h') → Ct l s0 E yX6_readTruth cX6_readTruth 4 (some .boolean) (7 + d) (134 + 60 * d) [.ref v0, .int v1] z h h' (some (.int r))) (H_X6_readBoth : ∀ {z : Sh} {h : Hp} {v0 : Nat} {v1 : Int32} {r : Int32} {h' : Hp}, g_X6_readBoth z h v0 v1 = some (r, h') → Ct l s0 E yX6_readBoth cX6_readBoth 4 (some .boolean) (7 + d) (134 + 60 * d) [.ref v0, .int v1] z h h' (some (.int r))) (H_X6_readUnit : ∀ {z : Sh} {h : Hp} {v0 : Nat} {v1 : Int32} {r : Int32} {h' : Hp}, g_X6_readUnit z h v0 v1 = some (r, h') → Ct l s0 E yX6_readUnit cX6_readUnit 4 (some .boolean) (7 + d) (134 + 60 * d) [.ref v0, .int v1] z h h' (some (.int r))) {z : Sh} {h : Hp} {v0 : Nat} {v1 : Int32} {r : Int32} {h' : Hp} (hf : F_X6_readAtom n g_X6_readSum g_X6_readTerm g_X6_readAtom g_X6_readTruth g_X6_readBoth g_X6_readUnit z h v0 v1 = some (r, h')) : Ct l s0 E yX6_readAtom cX6_readAtom 3 (some .boolean) (7 + (d + 1)) (134 + 60 * (d + 1)) [.ref v0, .int v1] z h h' (some (.int r)) := by
  refine Ct.of G (by decide) (Nat.le_of_ble_eq_true rfl) ?_
  intro p e s m below meth c ls B hw hz hc0 hr hlk hl
  have B : Bd p s0 s E m c cX6_readAtom 3 RX6 := B
  have hx := B.1
  have hb := B.2.1
  have hl : lv_has ls 3 [(0, .ref v0), (1, .int v1)] := hl
  unfold F_X6_readAtom at hf
  obtain ⟨_, hf⟩ := if_some hf
  refine lv_aload_n hx hb dX6_readAtom_0 rfl (lv_at hl 0 rfl) ?_
  obtain ⟨x1, e, hf⟩ := ob hf
  refine q_getI e B hw fd_6_6.1 fd_6_6.2.1 fd_6_6.2.2.1 fd_6_6.2.2.2.1 fd_6_6.2.2.2.2 rfl tw_1_111 dX6_readAtom_1 ?_
  refine lv_iconst (v := 1) hx hb dX6_readAtom_4 (by decide) ?_
  refine lv_icmp_ne (tgt := 22) hx hb dX6_readAtom_5 (by decide) (fun c2 => ?_) (fun c2 => ?_)
  · have hf := (if_neg c2).symm.trans hf
    refine lv_aload_n hx hb dX6_readAtom_22 rfl (lv_at hl 0 rfl) ?_
    refine q_ldcS (tx := "(") G (i := 23) (List.mem_of_getElem? (i := 13) (by decide +kernel)) B hw dX6_readAtom_23 ?_
    obtain ⟨x3, e, hf⟩ := ob hf
    refine q_callV (As := [.ref (z.st 23)]) (rest := []) (st1 := [.int x3]) (c_X6_is G e) B hw hz hc0 (k_X6_is e) (by decide) (ci := 6) rfl rfl my_X6_is mv_X6_is tw_3_42 ⟨by simp only [rmO, rmA]; omega, by simp only [rmO, rmA]; omega⟩ ⟨Nat.zero_le _, Nat.zero_le _⟩ rfl hl.1 rfl rfl (Nat.le_of_ble_eq_true rfl) dX6_readAtom_25 (fun H locs hw => ?_)
    refine lv_if_eq (tgt := 64) hx hb dX6_readAtom_28 (by decide) (fun c4 => ?_) (fun c4 => ?_)
    · have hf := (if_pos c4).symm.trans hf
      refine lv_aload_n hx hb dX6_readAtom_64 rfl (lv_at hl 0 rfl) ?_
      refine q_ldcS (tx := "if") G (i := 25) (List.mem_of_getElem? (i := 15) (by decide +kernel)) B hw dX6_readAtom_65 ?_
      obtain ⟨x5, e, hf⟩ := ob hf
      refine q_callV (As := [.ref (z.st 25)]) (rest := []) (st1 := [.int x5]) (c_X6_is G e) B hw hz hc0 (k_X6_is e) (by decide) (ci := 6) rfl rfl my_X6_is mv_X6_is tw_3_42 ⟨by simp only [rmO, rmA]; omega, by simp only [rmO, rmA]; omega⟩ ⟨Nat.zero_le _, Nat.zero_le _⟩ rfl hl.1 rfl rfl (Nat.le_of_ble_eq_true rfl) dX6_readAtom_67 (fun H locs hw => ?_)
      refine lv_if_eq (tgt := 152) hx hb dX6_readAtom_70 (by decide) (fun c6 => ?_) (fun c6 => ?_)
      · have hf := (if_pos c6).symm.trans hf
        refine lv_aload_n hx hb dX6_readAtom_152 rfl (lv_at hl 0 rfl) ?_
        obtain ⟨x7, e, hf⟩ := ob hf
        refine q_callV (As := []) (rest := []) (st1 := [.int x7]) (c_X6_factTold G e) B hw hz hc0 (k_X6_factTold e) (by decide) (ci := 6) rfl rfl my_X6_factTold mv_X6_factTold tw_3_152 ⟨by simp only [rmO, rmA]; omega, by simp only [rmO, rmA]; omega⟩ ⟨Nat.zero_le _, Nat.zero_le _⟩ rfl hl.1 rfl rfl (Nat.le_of_ble_eq_true rfl) dX6_readAtom_153 (fun H locs hw => ?_)
        refine lv_istore_n (lv' := [(2, .int x7), (0, .ref v0), (1, .int v1)]) hx hb dX6_readAtom_156 rfl hl (by decide) rfl (fun ls hl => ?_)
        refine lv_iload_n hx hb dX6_readAtom_157 rfl (lv_at hl 0 rfl) ?_
        refine lv_iconst (v := (-1)) hx hb dX6_readAtom_158 (by decide) ?_
        refine lv_icmp_ne (tgt := 168) hx hb dX6_readAtom_159 (by decide) (fun c8 => ?_) (fun c8 => ?_)
        · have hf := (if_neg c8).symm.trans hf
          refine lv_aload_n hx hb dX6_readAtom_168 rfl (lv_at hl 1 rfl) ?_
          refine lv_bipush (v := (-11)) hx hb dX6_readAtom_169 (by decide) ?_
          refine lv_iload_n hx hb dX6_readAtom_171 rfl (lv_at hl 0 rfl) ?_
          refine lv_isub hx hb dX6_readAtom_172 ?_
          obtain ⟨h9, e, hf⟩ := ob hf
          refine q_callV (As := [.int ((-11) - x7)]) (rest := []) (st1 := []) (c_X6_emit G e) B hw hz hc0 (k_X6_emit e) (by decide) (ci := 6) rfl rfl my_X6_emit mv_X6_emit tw_3_118 ⟨by simp only [rmO, rmA]; omega, by simp only [rmO, rmA]; omega⟩ ⟨Nat.zero_le _, Nat.zero_le _⟩ rfl hl.1 rfl rfl (Nat.le_of_ble_eq_true rfl) dX6_readAtom_173 (fun H locs hw => ?_)
          refine lv_aload_n hx hb dX6_readAtom_176 rfl (lv_at hl 1 rfl) ?_
          obtain ⟨h10, e, hf⟩ := ob hf
          refine q_callV (As := []) (rest := []) (st1 := []) (c_X6_next G e) B hw hz hc0 (k_X6_next e) (by decide) (ci := 6) rfl rfl my_X6_next mv_X6_next tw_2_171 ⟨by simp only [rmO, rmA]; omega, by simp only [rmO, rmA]; omega⟩ ⟨Nat.zero_le _, Nat.zero_le _⟩ rfl hl.1 rfl rfl (Nat.le_of_ble_eq_true rfl) dX6_readAtom_177 (fun H locs hw => ?_)
          refine lv_iconst (v := 1) hx hb dX6_readAtom_180 (by decide) ?_
          obtain ⟨rfl, rfl⟩ := so2 hf
          exact q_zret (Or.inr rfl) B hw hz hc0 hr hlk dX6_readAtom_181
        · have hf := (if_pos c8).symm.trans hf
          refine lv_aload_n hx hb dX6_readAtom_162 rfl (lv_at hl 1 rfl) ?_
          refine lv_iconst (v := 2) hx hb dX6_readAtom_163 (by decide) ?_
          obtain ⟨⟨x11, h12⟩, e, hf⟩ := ob hf
          refine q_callV (As := [.int 2]) (rest := []) (st1 := [.int x11]) (c_X6_wrong G e) B hw hz hc0 (k_X6_wrong e) (by decide) (ci := 6) rfl rfl my_X6_wrong mv_X6_wrong tw_3_67 ⟨by simp only [rmO, rmA]; omega, by simp only [rmO, rmA]; omega⟩ ⟨Nat.zero_le _, Nat.zero_le _⟩ rfl hl.1 rfl rfl (Nat.le_of_ble_eq_true rfl) dX6_readAtom_164 (fun H locs hw => ?_)
          obtain ⟨x13, e, hf⟩ := ob hf
          obtain ⟨e1, e⟩ := if_some e
          cases e
          obtain ⟨rfl, rfl⟩ := so2 hf
          exact q_zret e1 B hw hz hc0 hr hlk dX6_readAtom_167
      · have hf := (if_neg c6).symm.trans hf
        refine lv_aload_n hx hb dX6_readAtom_73 rfl (lv_at hl 0 rfl) ?_
        refine lv_iload_n hx hb dX6_readAtom_74 rfl (lv_at hl 1 rfl) ?_
        obtain ⟨⟨x14, h15⟩, e, hf⟩ := ob hf
        refine q_callV (As := [.int v1]) (rest := []) (st1 := [.int x14]) (c_X6_deeper G e) B hw hz hc0 (k_X6_deeper e) (by decide) (ci := 6) rfl rfl my_X6_deeper mv_X6_deeper tw_3_123 ⟨by simp only [rmO, rmA]; omega, by simp only [rmO, rmA]; omega⟩ ⟨Nat.zero_le _, Nat.zero_le _⟩ rfl hl.1 rfl rfl (Nat.le_of_ble_eq_true rfl) dX6_readAtom_75 (fun H locs hw => ?_)
        refine lv_if_eq (tgt := 142) hx hb dX6_readAtom_78 (by decide) (fun c16 => ?_) (fun c16 => ?_)
        · have hf := (if_pos c16).symm.trans hf
          exact w_X6_readAtom_142 G B hz hc0 hr hlk H_X6_readSum H_X6_readTerm H_X6_readAtom H_X6_readTruth H_X6_readBoth H_X6_readUnit  h15 v0 _ _ _ hw (lv_sub hl [0] rfl) hf
        · have hf := (if_neg c16).symm.trans hf
          refine lv_aload_n hx hb dX6_readAtom_81 rfl (lv_at hl 0 rfl) ?_
          refine lv_iload_n hx hb dX6_readAtom_82 rfl (lv_at hl 1 rfl) ?_
          refine lv_iconst (v := 1) hx hb dX6_readAtom_83 (by decide) ?_
          refine lv_iadd hx hb dX6_readAtom_84 ?_
          obtain ⟨_, eK, hf⟩ := ob hf
          obtain ⟨⟨x17, h18⟩, e, hf⟩ := ob hf
          refine q_callV (As := [.int (v1 + 1)]) (rest := []) (st1 := [.int x17]) (H_X6_readTruth e) B hw hz hc0 ((if_some eK).1) (by decide) (ci := 6) rfl rfl my_X6_readTruth mv_X6_readTruth tw_3_129 ⟨by simp only [rmO, rmA]; omega, by simp only [rmO, rmA]; omega⟩ ⟨Nat.zero_le _, Nat.zero_le _⟩ rfl hl.1 rfl rfl (Nat.le_of_ble_eq_true rfl) dX6_readAtom_85 (fun H locs hw => ?_)
          refine lv_if_eq (tgt := 142) hx hb dX6_readAtom_88 (by decide) (fun c19 => ?_) (fun c19 => ?_)
          · have hf := (if_pos c19).symm.trans hf
            exact w_X6_readAtom_142 G B hz hc0 hr hlk H_X6_readSum H_X6_readTerm H_X6_readAtom H_X6_readTruth H_X6_readBoth H_X6_readUnit  h18 v0 _ _ _ hw (lv_sub hl [0] rfl) hf
          · have hf := (if_neg c19).symm.trans hf
            refine lv_aload_n hx hb dX6_readAtom_91 rfl (lv_at hl 0 rfl) ?_
            refine q_ldcS (tx := "then") G (i := 34) (List.mem_of_getElem? (i := 24) (by decide +kernel)) B hw dX6_readAtom_92 ?_
            obtain ⟨⟨x20, h21⟩, e, hf⟩ := ob hf
            refine q_callV (As := [.ref (z.st 34)]) (rest := []) (st1 := [.int x20]) (c_X6_take G e) B hw hz hc0 (k_X6_take e) (by decide) (ci := 6) rfl rfl my_X6_take mv_X6_take tw_3_38 ⟨by simp only [rmO, rmA]; omega, by simp only [rmO, rmA]; omega⟩ ⟨Nat.zero_le _, Nat.zero_le _⟩ rfl hl.1 rfl rfl (Nat.le_of_ble_eq_true rfl) dX6_readAtom_94 (fun H locs hw => ?_)
            refine lv_if_eq (tgt := 142) hx hb dX6_readAtom_97 (by decide) (fun c22 => ?_) (fun c22 => ?_)
            · have hf := (if_pos c22).symm.trans hf
              exact w_X6_readAtom_142 G B hz hc0 hr hlk H_X6_readSum H_X6_readTerm H_X6_readAtom H_X6_readTruth H_X6_readBoth H_X6_readUnit  h21 v0 _ _ _ hw (lv_sub hl [0] rfl) hf
            · have hf := (if_neg c22).symm.trans hf
              refine lv_aload_n hx hb dX6_readAtom_100 rfl (lv_at hl 0 rfl) ?_
              refine lv_iload_n hx hb dX6_readAtom_101 rfl (lv_at hl 1 rfl) ?_
              refine lv_iconst (v := 1) hx hb dX6_readAtom_102 (by decide) ?_
              refine lv_iadd hx hb dX6_readAtom_103 ?_
              obtain ⟨_, eK, hf⟩ := ob hf
              obtain ⟨⟨x23, h24⟩, e, hf⟩ := ob hf
              refine q_callV (As := [.int (v1 + 1)]) (rest := []) (st1 := [.int x23]) (H_X6_readSum e) B hw hz hc0 ((if_some eK).1) (by decide) (ci := 6) rfl rfl my_X6_readSum mv_X6_readSum tw_3_106 ⟨by simp only [rmO, rmA]; omega, by simp only [rmO, rmA]; omega⟩ ⟨Nat.zero_le _, Nat.zero_le _⟩ rfl hl.1 rfl rfl (Nat.le_of_ble_eq_true rfl) dX6_readAtom_104 (fun H locs hw => ?_)
              refine lv_if_eq (tgt := 142) hx hb dX6_readAtom_107 (by decide) (fun c25 => ?_) (fun c25 => ?_)
              · have hf := (if_pos c25).symm.trans hf
                exact w_X6_readAtom_142 G B hz hc0 hr hlk H_X6_readSum H_X6_readTerm H_X6_readAtom H_X6_readTruth H_X6_readBoth H_X6_readUnit  h24 v0 _ _ _ hw (lv_sub hl [0] rfl) hf
              · have hf := (if_neg c25).symm.trans hf
                refine lv_aload_n hx hb dX6_readAtom_110 rfl (lv_at hl 0 rfl) ?_
                refine q_ldcS (tx := "else") G (i := 35) (List.mem_of_getElem? (i := 25) (by decide +kernel)) B hw dX6_readAtom_111 ?_
                obtain ⟨⟨x26, h27⟩, e, hf⟩ := ob hf
                refine q_callV (As := [.ref (z.st 35)]) (rest := []) (st1 := [.int x26]) (c_X6_take G e) B hw hz hc0 (k_X6_take e) (by decide) (ci := 6) rfl rfl my_X6_take mv_X6_take tw_3_38 ⟨by simp only [rmO, rmA]; omega, by simp only [rmO, rmA]; omega⟩ ⟨Nat.zero_le _, Nat.zero_le _⟩ rfl hl.1 rfl rfl (Nat.le_of_ble_eq_true rfl) dX6_readAtom_113 (fun H locs hw => ?_)
                refine lv_if_eq (tgt := 142) hx hb dX6_readAtom_116 (by decide) (fun c28 => ?_) (fun c28 => ?_)
                · have hf := (if_pos c28).symm.trans hf
                  exact w_X6_readAtom_142 G B hz hc0 hr hlk H_X6_readSum H_X6_readTerm H_X6_readAtom H_X6_readTruth H_X6_readBoth H_X6_readUnit  h27 v0 _ _ _ hw (lv_sub hl [0] rfl) hf
                · have hf := (if_neg c28).symm.trans hf
                  refine lv_aload_n hx hb dX6_readAtom_119 rfl (lv_at hl 0 rfl) ?_
                  refine lv_iload_n hx hb dX6_readAtom_120 rfl (lv_at hl 1 rfl) ?_
                  refine lv_iconst (v := 1) hx hb dX6_readAtom_121 (by decide) ?_
                  refine lv_iadd hx hb dX6_readAtom_122 ?_
                  obtain ⟨_, eK, hf⟩ := ob hf
                  obtain ⟨⟨x29, h30⟩, e, hf⟩ := ob hf
                  refine q_callV (As := [.int (v1 + 1)]) (rest := []) (st1 := [.int x29]) (H_X6_readSum e) B hw hz hc0 ((if_some eK).1) (by decide) (ci := 6) rfl rfl my_X6_readSum mv_X6_readSum tw_3_106 ⟨by simp only [rmO, rmA]; omega, by simp only [rmO, rmA]; omega⟩ ⟨Nat.zero_le _, Nat.zero_le _⟩ rfl hl.1 rfl rfl (Nat.le_of_ble_eq_true rfl) dX6_readAtom_123 (fun H locs hw => ?_)
                  refine lv_if_eq (tgt := 142) hx hb dX6_readAtom_126 (by decide) (fun c31 => ?_) (fun c31 => ?_)
                  · have hf := (if_pos c31).symm.trans hf
                    exact w_X6_readAtom_142 G B hz hc0 hr hlk H_X6_readSum H_X6_readTerm H_X6_readAtom H_X6_readTruth H_X6_readBoth H_X6_readUnit  h30 v0 _ _ _ hw (lv_sub hl [0] rfl) hf
                  · have hf := (if_neg c31).symm.trans hf
                    refine lv_aload_n hx hb dX6_readAtom_129 rfl (lv_at hl 0 rfl) ?_
                    refine q_ldcS (tx := "end") G (i := 36) (List.mem_of_getElem? (i := 26) (by decide +kernel)) B hw dX6_readAtom_130 ?_
                    obtain ⟨⟨x32, h33⟩, e, hf⟩ := ob hf
                    refine q_callV (As := [.ref (z.st 36)]) (rest := []) (st1 := [.int x32]) (c_X6_take G e) B hw hz hc0 (k_X6_take e) (by decide) (ci := 6) rfl rfl my_X6_take mv_X6_take tw_3_38 ⟨by simp only [rmO, rmA]; omega, by simp only [rmO, rmA]; omega⟩ ⟨Nat.zero_le _, Nat.zero_le _⟩ rfl hl.1 rfl rfl (Nat.le_of_ble_eq_true rfl) dX6_readAtom_132 (fun H locs hw => ?_)
                    refine lv_if_eq (tgt := 142) hx hb dX6_readAtom_135 (by decide) (fun c34 => ?_) (fun c34 => ?_)
                    · have hf := (if_pos c34).symm.trans hf
                      exact w_X6_readAtom_142 G B hz hc0 hr hlk H_X6_readSum H_X6_readTerm H_X6_readAtom H_X6_readTruth H_X6_readBoth H_X6_readUnit  h33 v0 _ _ _ hw (lv_sub hl [0] rfl) hf
                    · have hf := (if_neg c34).symm.trans hf
                      refine lv_iconst (v := 1) hx hb dX6_readAtom_138 (by decide) ?_
                      refine lv_goto (tgt := 143) hx hb dX6_readAtom_139 (by decide) ?_
                      exact w_X6_readAtom_143 G B hz hc0 hr hlk H_X6_readSum H_X6_readTerm H_X6_readAtom H_X6_readTruth H_X6_readBoth H_X6_readUnit  h33 v0 1 _ _ _ hw (lv_sub hl [0] rfl) hf
    · have hf := (if_neg c4).symm.trans hf
      refine lv_aload_n hx hb dX6_readAtom_31 rfl (lv_at hl 0 rfl) ?_
      refine lv_iload_n hx hb dX6_readAtom_32 rfl (lv_at hl 1 rfl) ?_
      obtain ⟨⟨x35, h36⟩, e, hf⟩ := ob hf
      refine q_callV (As := [.int v1]) (rest := []) (st1 := [.int x35]) (c_X6_deeper G e) B hw hz hc0 (k_X6_deeper e) (by decide) (ci := 6) rfl rfl my_X6_deeper mv_X6_deeper tw_3_123 ⟨by simp only [rmO, rmA]; omega, by simp only [rmO, rmA]; omega⟩ ⟨Nat.zero_le _, Nat.zero_le _⟩ rfl hl.1 rfl rfl (Nat.le_of_ble_eq_true rfl) dX6_readAtom_33 (fun H locs hw => ?_)
      refine lv_if_eq (tgt := 62) hx hb dX6_readAtom_36 (by decide) (fun c37 => ?_) (fun c37 => ?_)
      · have hf := (if_pos c37).symm.trans hf
        refine lv_iconst (v := 0) hx hb dX6_readAtom_62 (by decide) ?_
        obtain ⟨rfl, rfl⟩ := so2 hf
        exact q_zret (Or.inl rfl) B hw hz hc0 hr hlk dX6_readAtom_63
      · have hf := (if_neg c37).symm.trans hf
        refine lv_aload_n hx hb dX6_readAtom_39 rfl (lv_at hl 0 rfl) ?_
        refine lv_iload_n hx hb dX6_readAtom_40 rfl (lv_at hl 1 rfl) ?_
        refine lv_iconst (v := 1) hx hb dX6_readAtom_41 (by decide) ?_
        refine lv_iadd hx hb dX6_readAtom_42 ?_
        obtain ⟨_, eK, hf⟩ := ob hf
        obtain ⟨⟨x38, h39⟩, e, hf⟩ := ob hf
        refine q_callV (As := [.int (v1 + 1)]) (rest := []) (st1 := [.int x38]) (H_X6_readSum e) B hw hz hc0 ((if_some eK).1) (by decide) (ci := 6) rfl rfl my_X6_readSum mv_X6_readSum tw_3_106 ⟨by simp only [rmO, rmA]; omega, by simp only [rmO, rmA]; omega⟩ ⟨Nat.zero_le _, Nat.zero_le _⟩ rfl hl.1 rfl rfl (Nat.le_of_ble_eq_true rfl) dX6_readAtom_43 (fun H locs hw => ?_)
        refine lv_if_eq (tgt := 62) hx hb dX6_readAtom_46 (by decide) (fun c40 => ?_) (fun c40 => ?_)
        · have hf := (if_pos c40).symm.trans hf
          refine lv_iconst (v := 0) hx hb dX6_readAtom_62 (by decide) ?_
          obtain ⟨rfl, rfl⟩ := so2 hf
          exact q_zret (Or.inl rfl) B hw hz hc0 hr hlk dX6_readAtom_63
        · have hf := (if_neg c40).symm.trans hf
          refine lv_aload_n hx hb dX6_readAtom_49 rfl (lv_at hl 0 rfl) ?_
          refine q_ldcS (tx := ")") G (i := 24) (List.mem_of_getElem? (i := 14) (by decide +kernel)) B hw dX6_readAtom_50 ?_
          obtain ⟨⟨x41, h42⟩, e, hf⟩ := ob hf
          refine q_callV (As := [.ref (z.st 24)]) (rest := []) (st1 := [.int x41]) (c_X6_take G e) B hw hz hc0 (k_X6_take e) (by decide) (ci := 6) rfl rfl my_X6_take mv_X6_take tw_3_38 ⟨by simp only [rmO, rmA]; omega, by simp only [rmO, rmA]; omega⟩ ⟨Nat.zero_le _, Nat.zero_le _⟩ rfl hl.1 rfl rfl (Nat.le_of_ble_eq_true rfl) dX6_readAtom_52 (fun H locs hw => ?_)
          refine lv_if_eq (tgt := 62) hx hb dX6_readAtom_55 (by decide) (fun c43 => ?_) (fun c43 => ?_)
          · have hf := (if_pos c43).symm.trans hf
            refine lv_iconst (v := 0) hx hb dX6_readAtom_62 (by decide) ?_
            obtain ⟨rfl, rfl⟩ := so2 hf
            exact q_zret (Or.inl rfl) B hw hz hc0 hr hlk dX6_readAtom_63
          · have hf := (if_neg c43).symm.trans hf
            refine lv_iconst (v := 1) hx hb dX6_readAtom_58 (by decide) ?_
            refine lv_goto (tgt := 63) hx hb dX6_readAtom_59 (by decide) ?_
            obtain ⟨rfl, rfl⟩ := so2 hf
            exact q_zret (Or.inr rfl) B hw hz hc0 hr hlk dX6_readAtom_63
  · have hf := (if_pos c2).symm.trans hf
    refine lv_aload_n hx hb dX6_readAtom_8 rfl (lv_at hl 0 rfl) ?_
    refine lv_aload_n hx hb dX6_readAtom_9 rfl (lv_at hl 0 rfl) ?_
    obtain ⟨x44, e, hf⟩ := ob hf
    refine q_getI e B hw fd_6_7.1 fd_6_7.2.1 fd_6_7.2.2.1 fd_6_7.2.2.2.1 fd_6_7.2.2.2.2 rfl tw_1_112 dX6_readAtom_10 ?_
    obtain ⟨h45, e, hf⟩ := ob hf
    refine q_callV (As := [.int x44]) (rest := []) (st1 := []) (c_X6_emit G e) B hw hz hc0 (k_X6_emit e) (by decide) (ci := 6) rfl rfl my_X6_emit mv_X6_emit tw_3_118 ⟨by simp only [rmO, rmA]; omega, by simp only [rmO, rmA]; omega⟩ ⟨Nat.zero_le _, Nat.zero_le _⟩ rfl hl.1 rfl rfl (Nat.le_of_ble_eq_true rfl) dX6_readAtom_13 (fun H locs hw => ?_)
    refine lv_aload_n hx hb dX6_readAtom_16 rfl (lv_at hl 0 rfl) ?_
    obtain ⟨h46, e, hf⟩ := ob hf
    refine q_callV (As := []) (rest := []) (st1 := []) (c_X6_next G e) B hw hz hc0 (k_X6_next e) (by decide) (ci := 6) rfl rfl my_X6_next mv_X6_next tw_2_171 ⟨by simp only [rmO, rmA]; omega, by simp only [rmO, rmA]; omega⟩ ⟨Nat.zero_le _, Nat.zero_le _⟩ rfl hl.1 rfl rfl (Nat.le_of_ble_eq_true rfl) dX6_readAtom_17 (fun H locs hw => ?_)
    refine lv_iconst (v := 1) hx hb dX6_readAtom_20 (by decide) ?_
    obtain ⟨rfl, rfl⟩ := so2 hf
    exact q_zret (Or.inr rfl) B hw hz hc0 hr hlk dX6_readAtom_21
set_option maxHeartbeats 4000000 in
theorem w_X6_readTruth_8 {p : Program} {l : Launch} {e : Env} {s : State} {m : MethodId} {args : Array Value} {below : List Frame} {meth : Method} {c : Code} {s0 : State} {E : Ev} {z : Sh} {d : Nat} {g_X6_readSum : Sh → Hp → Nat → Int32 → Option (Int32 × Hp)} {g_X6_readTerm : Sh → Hp → Nat → Int32 → Option (Int32 × Hp)} {g_X6_readAtom : Sh → Hp → Nat → Int32 → Option (Int32 × Hp)} {g_X6_readTruth : Sh → Hp → Nat → Int32 → Option (Int32 × Hp)} {g_X6_readBoth : Sh → Hp → Nat → Int32 → Option (Int32 × Hp)} {g_X6_readUnit : Sh → Hp → Nat → Int32 → Option (Int32 × Hp)} {n : Nat} {r : Int32} {h' : Hp} (G : Gl s0 E) (B : Bd p s0 s E m c cX6_readTruth 4 RX6) (hz : s0.heap.size ≤ z.sz) (hc0 : s.heap.size + 0 = z.sz) (hr : meth.sig.returnType = (some .boolean)) (hlk : meth.locks = false) (H_X6_readSum : ∀ {z : Sh} {h : Hp} {v0 : Nat} {v1 : Int32} {r : Int32} {h' : Hp}, g_X6_readSum z h v0 v1 = some (r, h') → Ct l s0 E yX6_readSum cX6_readSum 5 (some .boolean) (7 + d) (134 + 60 * d) [.ref v0, .int v1] z h h' (some (.int r))) (H_X6_readTerm : ∀ {z : Sh} {h : Hp} {v0 : Nat} {v1 : Int32} {r : Int32} {h' : Hp}, g_X6_readTerm z h v0 v1 = some (r, h') → Ct l s0 E yX6_readTerm cX6_readTerm 4 (some .boolean) (7 + d) (134 + 60 * d) [.ref v0, .int v1] z h h' (some (.int r))) (H_X6_readAtom : ∀ {z : Sh} {h : Hp} {v0 : Nat} {v1 : Int32} {r : Int32} {h' : Hp}, g_X6_readAtom z h v0 v1 = some (r, h') → Ct l s0 E yX6_readAtom cX6_readAtom 3 (some .boolean) (7 + d) (134 + 60 * d) [.ref v0, .int v1] z h h' (some (.int r))) (H_X6_readTruth : ∀ {z : Sh} {h : Hp} {v0 : Nat} {v1 : Int32} {r : Int32} {h' : Hp}, g_X6_readTruth z h v0 v1 = some (r, h') → Ct l s0 E yX6_readTruth cX6_readTruth 4 (some .boolean) (7 + d) (134 + 60 * d) [.ref v0, .int v1] z h h' (some (.int r))) (H_X6_readBoth : ∀ {z : Sh} {h : Hp} {v0 : Nat} {v1 : Int32} {r : Int32} {h' : Hp}, g_X6_readBoth z h v0 v1 = some (r, h') → Ct l s0 E yX6_readBoth cX6_readBoth 4 (some .boolean) (7 + d) (134 + 60 * d) [.ref v0, .int v1] z h h' (some (.int r))) (H_X6_readUnit : ∀ {z : Sh} {h : Hp} {v0 : Nat} {v1 : Int32} {r : Int32} {h' : Hp}, g_X6_readUnit z h v0 v1 = some (r, h') → Ct l s0 E yX6_readUnit cX6_readUnit 4 (some .boolean) (7 + d) (134 + 60 * d) [.ref v0, .int v1] z h h' (some (.int r))) : ∀ (i : Nat), ∀ (h : Hp) (v0 : Nat) (v1 : Int32) (v2 : Int32) (v3 : Int32) (H : Heap) (locs : List Loc) (ls : Array Slot), Pw s0 s E z h H locs → lv_has ls 4 [(0, .ref v0), (1, .int v1), (2, .int v2), (3, .int v3)] → f_X6_readTruth_8 n g_X6_readSum g_X6_readTerm g_X6_readAtom g_X6_readTruth g_X6_readBoth g_X6_readUnit z i h v0 v1 v2 v3 = some (r, h') → W p l e (rmO (7 + (d + 1)) (134 + 60 * (d + 1))) s m args below meth c H locs 0 0 (Zt below s0 E z h' (some (.int r)) args s 0 0) (F0 m 8 ls []) := by
  have hx := B.1
  have hb := B.2.1
  intro i
  induction i with
  | zero =>
    intro h v0 v1 v2 v3 H locs ls hw hl hf
    have hf := (f_X6_readTruth_8.eq_1 ..).symm.trans hf
    cases hf
  | succ i ih =>
    intro h v0 v1 v2 v3 H locs ls hw hl hf
    have hf := (f_X6_readTruth_8.eq_2 ..).symm.trans hf
    refine lv_iload_n hx hb dX6_readTruth_8 rfl (lv_at hl 3 rfl) ?_
    refine lv_aload_n hx hb dX6_readTruth_9 rfl (lv_at hl 0 rfl) ?_
    obtain ⟨x1, e, hf⟩ := ob hf
    refine q_getI e B hw fd_6_3.1 fd_6_3.2.1 fd_6_3.2.2.1 fd_6_3.2.2.2.1 fd_6_3.2.2.2.2 rfl tw_1_108 dX6_readTruth_10 ?_
    refine lv_icmp_ge (tgt := 51) hx hb dX6_readTruth_13 (by decide) (fun c2 => ?_) (fun c2 => ?_)
    · have hf := (if_pos c2).symm.trans hf
      refine lv_iload_n hx hb dX6_readTruth_51 rfl (lv_at hl 2 rfl) ?_
      obtain ⟨x3, e, hf⟩ := ob hf
      obtain ⟨e1, e⟩ := if_some e
      cases e
      obtain ⟨rfl, rfl⟩ := so2 hf
      exact q_zret e1 B hw hz hc0 hr hlk dX6_readTruth_52
    · have hf := (if_neg c2).symm.trans hf
      refine lv_iload_n hx hb dX6_readTruth_16 rfl (lv_at hl 2 rfl) ?_
      refine lv_if_eq (tgt := 51) hx hb dX6_readTruth_17 (by decide) (fun c4 => ?_) (fun c4 => ?_)
      · have hf := (if_pos c4).symm.trans hf
        refine lv_iload_n hx hb dX6_readTruth_51 rfl (lv_at hl 2 rfl) ?_
        obtain ⟨x5, e, hf⟩ := ob hf
        obtain ⟨e1, e⟩ := if_some e
        cases e
        obtain ⟨rfl, rfl⟩ := so2 hf
        exact q_zret e1 B hw hz hc0 hr hlk dX6_readTruth_52
      · have hf := (if_neg c4).symm.trans hf
        refine lv_aload_n hx hb dX6_readTruth_20 rfl (lv_at hl 0 rfl) ?_
        refine q_ldcS (tx := "or") G (i := 33) (List.mem_of_getElem? (i := 23) (by decide +kernel)) B hw dX6_readTruth_21 ?_
        obtain ⟨x6, e, hf⟩ := ob hf
        refine q_callV (As := [.ref (z.st 33)]) (rest := []) (st1 := [.int x6]) (c_X6_is G e) B hw hz hc0 (k_X6_is e) (by decide) (ci := 6) rfl rfl my_X6_is mv_X6_is tw_3_42 ⟨by simp only [rmO, rmA]; omega, by simp only [rmO, rmA]; omega⟩ ⟨Nat.zero_le _, Nat.zero_le _⟩ rfl hl.1 rfl rfl (Nat.le_of_ble_eq_true rfl) dX6_readTruth_23 (fun H locs hw => ?_)
        refine lv_if_eq (tgt := 51) hx hb dX6_readTruth_26 (by decide) (fun c7 => ?_) (fun c7 => ?_)
        · have hf := (if_pos c7).symm.trans hf
          refine lv_iload_n hx hb dX6_readTruth_51 rfl (lv_at hl 2 rfl) ?_
          obtain ⟨x8, e, hf⟩ := ob hf
          obtain ⟨e1, e⟩ := if_some e
          cases e
          obtain ⟨rfl, rfl⟩ := so2 hf
          exact q_zret e1 B hw hz hc0 hr hlk dX6_readTruth_52
        · have hf := (if_neg c7).symm.trans hf
          refine lv_aload_n hx hb dX6_readTruth_29 rfl (lv_at hl 0 rfl) ?_
          obtain ⟨h9, e, hf⟩ := ob hf
          refine q_callV (As := []) (rest := []) (st1 := []) (c_X6_next G e) B hw hz hc0 (k_X6_next e) (by decide) (ci := 6) rfl rfl my_X6_next mv_X6_next tw_2_171 ⟨by simp only [rmO, rmA]; omega, by simp only [rmO, rmA]; omega⟩ ⟨Nat.zero_le _, Nat.zero_le _⟩ rfl hl.1 rfl rfl (Nat.le_of_ble_eq_true rfl) dX6_readTruth_30 (fun H locs hw => ?_)
          refine lv_aload_n hx hb dX6_readTruth_33 rfl (lv_at hl 0 rfl) ?_
          refine lv_iload_n hx hb dX6_readTruth_34 rfl (lv_at hl 1 rfl) ?_
          obtain ⟨_, eK, hf⟩ := ob hf
          obtain ⟨⟨x10, h11⟩, e, hf⟩ := ob hf
          refine q_callV (As := [.int v1]) (rest := []) (st1 := [.int x10]) (H_X6_readBoth e) B hw hz hc0 ((if_some eK).1) (by decide) (ci := 6) rfl rfl my_X6_readBoth mv_X6_readBoth tw_3_133 ⟨by simp only [rmO, rmA]; omega, by simp only [rmO, rmA]; omega⟩ ⟨Nat.zero_le _, Nat.zero_le _⟩ rfl hl.1 rfl rfl (Nat.le_of_ble_eq_true rfl) dX6_readTruth_35 (fun H locs hw => ?_)
          refine lv_istore_n (lv' := [(2, .int x10), (0, .ref v0), (1, .int v1), (3, .int v3)]) hx hb dX6_readTruth_38 rfl hl (by decide) rfl (fun ls hl => ?_)
          refine lv_aload_n hx hb dX6_readTruth_39 rfl (lv_at hl 1 rfl) ?_
          refine lv_bipush (v := (-8)) hx hb dX6_readTruth_40 (by decide) ?_
          obtain ⟨h12, e, hf⟩ := ob hf
          refine q_callV (As := [.int (-8)]) (rest := []) (st1 := []) (c_X6_emit G e) B hw hz hc0 (k_X6_emit e) (by decide) (ci := 6) rfl rfl my_X6_emit mv_X6_emit tw_3_118 ⟨by simp only [rmO, rmA]; omega, by simp only [rmO, rmA]; omega⟩ ⟨Nat.zero_le _, Nat.zero_le _⟩ rfl hl.1 rfl rfl (Nat.le_of_ble_eq_true rfl) dX6_readTruth_42 (fun H locs hw => ?_)
          obtain ⟨x13, e, hf⟩ := ob hf
          refine lv_iinc (v := x13) (lv' := [(3, .int x13), (2, .int x10), (0, .ref v0), (1, .int v1)]) hx hb dX6_readTruth_45 hl (k := 3) rfl (Option.some.inj e) (by decide) rfl (fun ls hl => ?_)
          refine lv_goto (tgt := 8) hx hb dX6_readTruth_48 (by decide) ?_
          exact ih h12 v0 v1 x10 x13 _ _ _ hw (lv_sub hl [2, 3, 1, 0] rfl) hf
set_option maxHeartbeats 4000000 in
theorem co_X6_readTruth {l : Launch} {s0 : State} {E : Ev} (G : Gl s0 E) {n : Nat} {d : Nat} {g_X6_readSum : Sh → Hp → Nat → Int32 → Option (Int32 × Hp)} {g_X6_readTerm : Sh → Hp → Nat → Int32 → Option (Int32 × Hp)} {g_X6_readAtom : Sh → Hp → Nat → Int32 → Option (Int32 × Hp)} {g_X6_readTruth : Sh → Hp → Nat → Int32 → Option (Int32 × Hp)} {g_X6_readBoth : Sh → Hp → Nat → Int32 → Option (Int32 × Hp)} {g_X6_readUnit : Sh → Hp → Nat → Int32 → Option (Int32 × Hp)} (H_X6_readSum : ∀ {z : Sh} {h : Hp} {v0 : Nat} {v1 : Int32} {r : Int32} {h' : Hp}, g_X6_readSum z h v0 v1 = some (r, h') → Ct l s0 E yX6_readSum cX6_readSum 5 (some .boolean) (7 + d) (134 + 60 * d) [.ref v0, .int v1] z h h' (some (.int r))) (H_X6_readTerm : ∀ {z : Sh} {h : Hp} {v0 : Nat} {v1 : Int32} {r : Int32} {h' : Hp}, g_X6_readTerm z h v0 v1 = some (r, h') → Ct l s0 E yX6_readTerm cX6_readTerm 4 (some .boolean) (7 + d) (134 + 60 * d) [.ref v0, .int v1] z h h' (some (.int r))) (H_X6_readAtom : ∀ {z : Sh} {h : Hp} {v0 : Nat} {v1 : Int32} {r : Int32} {h' : Hp}, g_X6_readAtom z h v0 v1 = some (r, h') → Ct l s0 E yX6_readAtom cX6_readAtom 3 (some .boolean) (7 + d) (134 + 60 * d) [.ref v0, .int v1] z h h' (some (.int r))) (H_X6_readTruth : ∀ {z : Sh} {h : Hp} {v0 : Nat} {v1 : Int32} {r : Int32} {h' : Hp}, g_X6_readTruth z h v0 v1 = some (r, h') → Ct l s0 E yX6_readTruth cX6_readTruth 4 (some .boolean) (7 + d) (134 + 60 * d) [.ref v0, .int v1] z h h' (some (.int r))) (H_X6_readBoth : ∀ {z : Sh} {h : Hp} {v0 : Nat} {v1 : Int32} {r : Int32} {h' : Hp}, g_X6_readBoth z h v0 v1 = some (r, h') → Ct l s0 E yX6_readBoth cX6_readBoth 4 (some .boolean) (7 + d) (134 + 60 * d) [.ref v0, .int v1] z h h' (some (.int r))) (H_X6_readUnit : ∀ {z : Sh} {h : Hp} {v0 : Nat} {v1 : Int32} {r : Int32} {h' : Hp}, g_X6_readUnit z h v0 v1 = some (r, h') → Ct l s0 E yX6_readUnit cX6_readUnit 4 (some .boolean) (7 + d) (134 + 60 * d) [.ref v0, .int v1] z h h' (some (.int r))) {z : Sh} {h : Hp} {v0 : Nat} {v1 : Int32} {r : Int32} {h' : Hp} (hf : F_X6_readTruth n g_X6_readSum g_X6_readTerm g_X6_readAtom g_X6_readTruth g_X6_readBoth g_X6_readUnit z h v0 v1 = some (r, h')) : Ct l s0 E yX6_readTruth cX6_readTruth 4 (some .boolean) (7 + (d + 1)) (134 + 60 * (d + 1)) [.ref v0, .int v1] z h h' (some (.int r)) := by
  refine Ct.of G (by decide) (Nat.le_of_ble_eq_true rfl) ?_
  intro p e s m below meth c ls B hw hz hc0 hr hlk hl
  have B : Bd p s0 s E m c cX6_readTruth 4 RX6 := B
  have hx := B.1
  have hb := B.2.1
  have hl : lv_has ls 4 [(0, .ref v0), (1, .int v1)] := hl
  unfold F_X6_readTruth at hf
  obtain ⟨_, hf⟩ := if_some hf
  refine lv_aload_n hx hb dX6_readTruth_0 rfl (lv_at hl 0 rfl) ?_
  refine lv_iload_n hx hb dX6_readTruth_1 rfl (lv_at hl 1 rfl) ?_
  obtain ⟨_, eK, hf⟩ := ob hf
  obtain ⟨⟨x1, h2⟩, e, hf⟩ := ob hf
  refine q_callV (As := [.int v1]) (rest := []) (st1 := [.int x1]) (H_X6_readBoth e) B hw hz hc0 ((if_some eK).1) (by decide) (ci := 6) rfl rfl my_X6_readBoth mv_X6_readBoth tw_3_133 ⟨by simp only [rmO, rmA]; omega, by simp only [rmO, rmA]; omega⟩ ⟨Nat.zero_le _, Nat.zero_le _⟩ rfl hl.1 rfl rfl (Nat.le_of_ble_eq_true rfl) dX6_readTruth_2 (fun H locs hw => ?_)
  refine lv_istore_n (lv' := [(2, .int x1), (0, .ref v0), (1, .int v1)]) hx hb dX6_readTruth_5 rfl hl (by decide) rfl (fun ls hl => ?_)
  refine lv_iconst (v := 0) hx hb dX6_readTruth_6 (by decide) ?_
  refine lv_istore_n (lv' := [(3, .int 0), (2, .int x1), (0, .ref v0), (1, .int v1)]) hx hb dX6_readTruth_7 rfl hl (by decide) rfl (fun ls hl => ?_)
  exact w_X6_readTruth_8 G B hz hc0 hr hlk H_X6_readSum H_X6_readTerm H_X6_readAtom H_X6_readTruth H_X6_readBoth H_X6_readUnit  n h2 v0 v1 x1 0 _ _ _ hw (lv_sub hl [2, 3, 1, 0] rfl) hf
set_option maxHeartbeats 4000000 in
theorem w_X6_readBoth_8 {p : Program} {l : Launch} {e : Env} {s : State} {m : MethodId} {args : Array Value} {below : List Frame} {meth : Method} {c : Code} {s0 : State} {E : Ev} {z : Sh} {d : Nat} {g_X6_readSum : Sh → Hp → Nat → Int32 → Option (Int32 × Hp)} {g_X6_readTerm : Sh → Hp → Nat → Int32 → Option (Int32 × Hp)} {g_X6_readAtom : Sh → Hp → Nat → Int32 → Option (Int32 × Hp)} {g_X6_readTruth : Sh → Hp → Nat → Int32 → Option (Int32 × Hp)} {g_X6_readBoth : Sh → Hp → Nat → Int32 → Option (Int32 × Hp)} {g_X6_readUnit : Sh → Hp → Nat → Int32 → Option (Int32 × Hp)} {n : Nat} {r : Int32} {h' : Hp} (G : Gl s0 E) (B : Bd p s0 s E m c cX6_readBoth 4 RX6) (hz : s0.heap.size ≤ z.sz) (hc0 : s.heap.size + 0 = z.sz) (hr : meth.sig.returnType = (some .boolean)) (hlk : meth.locks = false) (H_X6_readSum : ∀ {z : Sh} {h : Hp} {v0 : Nat} {v1 : Int32} {r : Int32} {h' : Hp}, g_X6_readSum z h v0 v1 = some (r, h') → Ct l s0 E yX6_readSum cX6_readSum 5 (some .boolean) (7 + d) (134 + 60 * d) [.ref v0, .int v1] z h h' (some (.int r))) (H_X6_readTerm : ∀ {z : Sh} {h : Hp} {v0 : Nat} {v1 : Int32} {r : Int32} {h' : Hp}, g_X6_readTerm z h v0 v1 = some (r, h') → Ct l s0 E yX6_readTerm cX6_readTerm 4 (some .boolean) (7 + d) (134 + 60 * d) [.ref v0, .int v1] z h h' (some (.int r))) (H_X6_readAtom : ∀ {z : Sh} {h : Hp} {v0 : Nat} {v1 : Int32} {r : Int32} {h' : Hp}, g_X6_readAtom z h v0 v1 = some (r, h') → Ct l s0 E yX6_readAtom cX6_readAtom 3 (some .boolean) (7 + d) (134 + 60 * d) [.ref v0, .int v1] z h h' (some (.int r))) (H_X6_readTruth : ∀ {z : Sh} {h : Hp} {v0 : Nat} {v1 : Int32} {r : Int32} {h' : Hp}, g_X6_readTruth z h v0 v1 = some (r, h') → Ct l s0 E yX6_readTruth cX6_readTruth 4 (some .boolean) (7 + d) (134 + 60 * d) [.ref v0, .int v1] z h h' (some (.int r))) (H_X6_readBoth : ∀ {z : Sh} {h : Hp} {v0 : Nat} {v1 : Int32} {r : Int32} {h' : Hp}, g_X6_readBoth z h v0 v1 = some (r, h') → Ct l s0 E yX6_readBoth cX6_readBoth 4 (some .boolean) (7 + d) (134 + 60 * d) [.ref v0, .int v1] z h h' (some (.int r))) (H_X6_readUnit : ∀ {z : Sh} {h : Hp} {v0 : Nat} {v1 : Int32} {r : Int32} {h' : Hp}, g_X6_readUnit z h v0 v1 = some (r, h') → Ct l s0 E yX6_readUnit cX6_readUnit 4 (some .boolean) (7 + d) (134 + 60 * d) [.ref v0, .int v1] z h h' (some (.int r))) : ∀ (i : Nat), ∀ (h : Hp) (v0 : Nat) (v1 : Int32) (v2 : Int32) (v3 : Int32) (H : Heap) (locs : List Loc) (ls : Array Slot), Pw s0 s E z h H locs → lv_has ls 4 [(0, .ref v0), (1, .int v1), (2, .int v2), (3, .int v3)] → f_X6_readBoth_8 n g_X6_readSum g_X6_readTerm g_X6_readAtom g_X6_readTruth g_X6_readBoth g_X6_readUnit z i h v0 v1 v2 v3 = some (r, h') → W p l e (rmO (7 + (d + 1)) (134 + 60 * (d + 1))) s m args below meth c H locs 0 0 (Zt below s0 E z h' (some (.int r)) args s 0 0) (F0 m 8 ls []) := by
  have hx := B.1
  have hb := B.2.1
  intro i
  induction i with
  | zero =>
    intro h v0 v1 v2 v3 H locs ls hw hl hf
    have hf := (f_X6_readBoth_8.eq_1 ..).symm.trans hf
    cases hf
  | succ i ih =>
    intro h v0 v1 v2 v3 H locs ls hw hl hf
    have hf := (f_X6_readBoth_8.eq_2 ..).symm.trans hf
    refine lv_iload_n hx hb dX6_readBoth_8 rfl (lv_at hl 3 rfl) ?_
    refine lv_aload_n hx hb dX6_readBoth_9 rfl (lv_at hl 0 rfl) ?_
    obtain ⟨x1, e, hf⟩ := ob hf
    refine q_getI e B hw fd_6_3.1 fd_6_3.2.1 fd_6_3.2.2.1 fd_6_3.2.2.2.1 fd_6_3.2.2.2.2 rfl tw_1_108 dX6_readBoth_10 ?_
    refine lv_icmp_ge (tgt := 51) hx hb dX6_readBoth_13 (by decide) (fun c2 => ?_) (fun c2 => ?_)
    · have hf := (if_pos c2).symm.trans hf
      refine lv_iload_n hx hb dX6_readBoth_51 rfl (lv_at hl 2 rfl) ?_
      obtain ⟨x3, e, hf⟩ := ob hf
      obtain ⟨e1, e⟩ := if_some e
      cases e
      obtain ⟨rfl, rfl⟩ := so2 hf
      exact q_zret e1 B hw hz hc0 hr hlk dX6_readBoth_52
    · have hf := (if_neg c2).symm.trans hf
      refine lv_iload_n hx hb dX6_readBoth_16 rfl (lv_at hl 2 rfl) ?_
      refine lv_if_eq (tgt := 51) hx hb dX6_readBoth_17 (by decide) (fun c4 => ?_) (fun c4 => ?_)
      · have hf := (if_pos c4).symm.trans hf
        refine lv_iload_n hx hb dX6_readBoth_51 rfl (lv_at hl 2 rfl) ?_
        obtain ⟨x5, e, hf⟩ := ob hf
        obtain ⟨e1, e⟩ := if_some e
        cases e
        obtain ⟨rfl, rfl⟩ := so2 hf
        exact q_zret e1 B hw hz hc0 hr hlk dX6_readBoth_52
      · have hf := (if_neg c4).symm.trans hf
        refine lv_aload_n hx hb dX6_readBoth_20 rfl (lv_at hl 0 rfl) ?_
        refine q_ldcS (tx := "and") G (i := 32) (List.mem_of_getElem? (i := 22) (by decide +kernel)) B hw dX6_readBoth_21 ?_
        obtain ⟨x6, e, hf⟩ := ob hf
        refine q_callV (As := [.ref (z.st 32)]) (rest := []) (st1 := [.int x6]) (c_X6_is G e) B hw hz hc0 (k_X6_is e) (by decide) (ci := 6) rfl rfl my_X6_is mv_X6_is tw_3_42 ⟨by simp only [rmO, rmA]; omega, by simp only [rmO, rmA]; omega⟩ ⟨Nat.zero_le _, Nat.zero_le _⟩ rfl hl.1 rfl rfl (Nat.le_of_ble_eq_true rfl) dX6_readBoth_23 (fun H locs hw => ?_)
        refine lv_if_eq (tgt := 51) hx hb dX6_readBoth_26 (by decide) (fun c7 => ?_) (fun c7 => ?_)
        · have hf := (if_pos c7).symm.trans hf
          refine lv_iload_n hx hb dX6_readBoth_51 rfl (lv_at hl 2 rfl) ?_
          obtain ⟨x8, e, hf⟩ := ob hf
          obtain ⟨e1, e⟩ := if_some e
          cases e
          obtain ⟨rfl, rfl⟩ := so2 hf
          exact q_zret e1 B hw hz hc0 hr hlk dX6_readBoth_52
        · have hf := (if_neg c7).symm.trans hf
          refine lv_aload_n hx hb dX6_readBoth_29 rfl (lv_at hl 0 rfl) ?_
          obtain ⟨h9, e, hf⟩ := ob hf
          refine q_callV (As := []) (rest := []) (st1 := []) (c_X6_next G e) B hw hz hc0 (k_X6_next e) (by decide) (ci := 6) rfl rfl my_X6_next mv_X6_next tw_2_171 ⟨by simp only [rmO, rmA]; omega, by simp only [rmO, rmA]; omega⟩ ⟨Nat.zero_le _, Nat.zero_le _⟩ rfl hl.1 rfl rfl (Nat.le_of_ble_eq_true rfl) dX6_readBoth_30 (fun H locs hw => ?_)
          refine lv_aload_n hx hb dX6_readBoth_33 rfl (lv_at hl 0 rfl) ?_
          refine lv_iload_n hx hb dX6_readBoth_34 rfl (lv_at hl 1 rfl) ?_
          obtain ⟨_, eK, hf⟩ := ob hf
          obtain ⟨⟨x10, h11⟩, e, hf⟩ := ob hf
          refine q_callV (As := [.int v1]) (rest := []) (st1 := [.int x10]) (H_X6_readUnit e) B hw hz hc0 ((if_some eK).1) (by decide) (ci := 6) rfl rfl my_X6_readUnit mv_X6_readUnit tw_3_137 ⟨by simp only [rmO, rmA]; omega, by simp only [rmO, rmA]; omega⟩ ⟨Nat.zero_le _, Nat.zero_le _⟩ rfl hl.1 rfl rfl (Nat.le_of_ble_eq_true rfl) dX6_readBoth_35 (fun H locs hw => ?_)
          refine lv_istore_n (lv' := [(2, .int x10), (0, .ref v0), (1, .int v1), (3, .int v3)]) hx hb dX6_readBoth_38 rfl hl (by decide) rfl (fun ls hl => ?_)
          refine lv_aload_n hx hb dX6_readBoth_39 rfl (lv_at hl 1 rfl) ?_
          refine lv_bipush (v := (-7)) hx hb dX6_readBoth_40 (by decide) ?_
          obtain ⟨h12, e, hf⟩ := ob hf
          refine q_callV (As := [.int (-7)]) (rest := []) (st1 := []) (c_X6_emit G e) B hw hz hc0 (k_X6_emit e) (by decide) (ci := 6) rfl rfl my_X6_emit mv_X6_emit tw_3_118 ⟨by simp only [rmO, rmA]; omega, by simp only [rmO, rmA]; omega⟩ ⟨Nat.zero_le _, Nat.zero_le _⟩ rfl hl.1 rfl rfl (Nat.le_of_ble_eq_true rfl) dX6_readBoth_42 (fun H locs hw => ?_)
          obtain ⟨x13, e, hf⟩ := ob hf
          refine lv_iinc (v := x13) (lv' := [(3, .int x13), (2, .int x10), (0, .ref v0), (1, .int v1)]) hx hb dX6_readBoth_45 hl (k := 3) rfl (Option.some.inj e) (by decide) rfl (fun ls hl => ?_)
          refine lv_goto (tgt := 8) hx hb dX6_readBoth_48 (by decide) ?_
          exact ih h12 v0 v1 x10 x13 _ _ _ hw (lv_sub hl [2, 3, 1, 0] rfl) hf
set_option maxHeartbeats 4000000 in
theorem co_X6_readBoth {l : Launch} {s0 : State} {E : Ev} (G : Gl s0 E) {n : Nat} {d : Nat} {g_X6_readSum : Sh → Hp → Nat → Int32 → Option (Int32 × Hp)} {g_X6_readTerm : Sh → Hp → Nat → Int32 → Option (Int32 × Hp)} {g_X6_readAtom : Sh → Hp → Nat → Int32 → Option (Int32 × Hp)} {g_X6_readTruth : Sh → Hp → Nat → Int32 → Option (Int32 × Hp)} {g_X6_readBoth : Sh → Hp → Nat → Int32 → Option (Int32 × Hp)} {g_X6_readUnit : Sh → Hp → Nat → Int32 → Option (Int32 × Hp)} (H_X6_readSum : ∀ {z : Sh} {h : Hp} {v0 : Nat} {v1 : Int32} {r : Int32} {h' : Hp}, g_X6_readSum z h v0 v1 = some (r, h') → Ct l s0 E yX6_readSum cX6_readSum 5 (some .boolean) (7 + d) (134 + 60 * d) [.ref v0, .int v1] z h h' (some (.int r))) (H_X6_readTerm : ∀ {z : Sh} {h : Hp} {v0 : Nat} {v1 : Int32} {r : Int32} {h' : Hp}, g_X6_readTerm z h v0 v1 = some (r, h') → Ct l s0 E yX6_readTerm cX6_readTerm 4 (some .boolean) (7 + d) (134 + 60 * d) [.ref v0, .int v1] z h h' (some (.int r))) (H_X6_readAtom : ∀ {z : Sh} {h : Hp} {v0 : Nat} {v1 : Int32} {r : Int32} {h' : Hp}, g_X6_readAtom z h v0 v1 = some (r, h') → Ct l s0 E yX6_readAtom cX6_readAtom 3 (some .boolean) (7 + d) (134 + 60 * d) [.ref v0, .int v1] z h h' (some (.int r))) (H_X6_readTruth : ∀ {z : Sh} {h : Hp} {v0 : Nat} {v1 : Int32} {r : Int32} {h' : Hp}, g_X6_readTruth z h v0 v1 = some (r, h') → Ct l s0 E yX6_readTruth cX6_readTruth 4 (some .boolean) (7 + d) (134 + 60 * d) [.ref v0, .int v1] z h h' (some (.int r))) (H_X6_readBoth : ∀ {z : Sh} {h : Hp} {v0 : Nat} {v1 : Int32} {r : Int32} {h' : Hp}, g_X6_readBoth z h v0 v1 = some (r, h') → Ct l s0 E yX6_readBoth cX6_readBoth 4 (some .boolean) (7 + d) (134 + 60 * d) [.ref v0, .int v1] z h h' (some (.int r))) (H_X6_readUnit : ∀ {z : Sh} {h : Hp} {v0 : Nat} {v1 : Int32} {r : Int32} {h' : Hp}, g_X6_readUnit z h v0 v1 = some (r, h') → Ct l s0 E yX6_readUnit cX6_readUnit 4 (some .boolean) (7 + d) (134 + 60 * d) [.ref v0, .int v1] z h h' (some (.int r))) {z : Sh} {h : Hp} {v0 : Nat} {v1 : Int32} {r : Int32} {h' : Hp} (hf : F_X6_readBoth n g_X6_readSum g_X6_readTerm g_X6_readAtom g_X6_readTruth g_X6_readBoth g_X6_readUnit z h v0 v1 = some (r, h')) : Ct l s0 E yX6_readBoth cX6_readBoth 4 (some .boolean) (7 + (d + 1)) (134 + 60 * (d + 1)) [.ref v0, .int v1] z h h' (some (.int r)) := by
  refine Ct.of G (by decide) (Nat.le_of_ble_eq_true rfl) ?_
  intro p e s m below meth c ls B hw hz hc0 hr hlk hl
  have B : Bd p s0 s E m c cX6_readBoth 4 RX6 := B
  have hx := B.1
  have hb := B.2.1
  have hl : lv_has ls 4 [(0, .ref v0), (1, .int v1)] := hl
  unfold F_X6_readBoth at hf
  obtain ⟨_, hf⟩ := if_some hf
  refine lv_aload_n hx hb dX6_readBoth_0 rfl (lv_at hl 0 rfl) ?_
  refine lv_iload_n hx hb dX6_readBoth_1 rfl (lv_at hl 1 rfl) ?_
  obtain ⟨_, eK, hf⟩ := ob hf
  obtain ⟨⟨x1, h2⟩, e, hf⟩ := ob hf
  refine q_callV (As := [.int v1]) (rest := []) (st1 := [.int x1]) (H_X6_readUnit e) B hw hz hc0 ((if_some eK).1) (by decide) (ci := 6) rfl rfl my_X6_readUnit mv_X6_readUnit tw_3_137 ⟨by simp only [rmO, rmA]; omega, by simp only [rmO, rmA]; omega⟩ ⟨Nat.zero_le _, Nat.zero_le _⟩ rfl hl.1 rfl rfl (Nat.le_of_ble_eq_true rfl) dX6_readBoth_2 (fun H locs hw => ?_)
  refine lv_istore_n (lv' := [(2, .int x1), (0, .ref v0), (1, .int v1)]) hx hb dX6_readBoth_5 rfl hl (by decide) rfl (fun ls hl => ?_)
  refine lv_iconst (v := 0) hx hb dX6_readBoth_6 (by decide) ?_
  refine lv_istore_n (lv' := [(3, .int 0), (2, .int x1), (0, .ref v0), (1, .int v1)]) hx hb dX6_readBoth_7 rfl hl (by decide) rfl (fun ls hl => ?_)
  exact w_X6_readBoth_8 G B hz hc0 hr hlk H_X6_readSum H_X6_readTerm H_X6_readAtom H_X6_readTruth H_X6_readBoth H_X6_readUnit  n h2 v0 v1 x1 0 _ _ _ hw (lv_sub hl [2, 3, 1, 0] rfl) hf
set_option maxHeartbeats 4000000 in
theorem w_X6_readUnit_145 {p : Program} {l : Launch} {e : Env} {s : State} {m : MethodId} {args : Array Value} {below : List Frame} {meth : Method} {c : Code} {s0 : State} {E : Ev} {z : Sh} {d : Nat} {g_X6_readSum : Sh → Hp → Nat → Int32 → Option (Int32 × Hp)} {g_X6_readTerm : Sh → Hp → Nat → Int32 → Option (Int32 × Hp)} {g_X6_readAtom : Sh → Hp → Nat → Int32 → Option (Int32 × Hp)} {g_X6_readTruth : Sh → Hp → Nat → Int32 → Option (Int32 × Hp)} {g_X6_readBoth : Sh → Hp → Nat → Int32 → Option (Int32 × Hp)} {g_X6_readUnit : Sh → Hp → Nat → Int32 → Option (Int32 × Hp)} {n : Nat} {r : Int32} {h' : Hp} (G : Gl s0 E) (B : Bd p s0 s E m c cX6_readUnit 4 RX6) (hz : s0.heap.size ≤ z.sz) (hc0 : s.heap.size + 0 = z.sz) (hr : meth.sig.returnType = (some .boolean)) (hlk : meth.locks = false) (H_X6_readSum : ∀ {z : Sh} {h : Hp} {v0 : Nat} {v1 : Int32} {r : Int32} {h' : Hp}, g_X6_readSum z h v0 v1 = some (r, h') → Ct l s0 E yX6_readSum cX6_readSum 5 (some .boolean) (7 + d) (134 + 60 * d) [.ref v0, .int v1] z h h' (some (.int r))) (H_X6_readTerm : ∀ {z : Sh} {h : Hp} {v0 : Nat} {v1 : Int32} {r : Int32} {h' : Hp}, g_X6_readTerm z h v0 v1 = some (r, h') → Ct l s0 E yX6_readTerm cX6_readTerm 4 (some .boolean) (7 + d) (134 + 60 * d) [.ref v0, .int v1] z h h' (some (.int r))) (H_X6_readAtom : ∀ {z : Sh} {h : Hp} {v0 : Nat} {v1 : Int32} {r : Int32} {h' : Hp}, g_X6_readAtom z h v0 v1 = some (r, h') → Ct l s0 E yX6_readAtom cX6_readAtom 3 (some .boolean) (7 + d) (134 + 60 * d) [.ref v0, .int v1] z h h' (some (.int r))) (H_X6_readTruth : ∀ {z : Sh} {h : Hp} {v0 : Nat} {v1 : Int32} {r : Int32} {h' : Hp}, g_X6_readTruth z h v0 v1 = some (r, h') → Ct l s0 E yX6_readTruth cX6_readTruth 4 (some .boolean) (7 + d) (134 + 60 * d) [.ref v0, .int v1] z h h' (some (.int r))) (H_X6_readBoth : ∀ {z : Sh} {h : Hp} {v0 : Nat} {v1 : Int32} {r : Int32} {h' : Hp}, g_X6_readBoth z h v0 v1 = some (r, h') → Ct l s0 E yX6_readBoth cX6_readBoth 4 (some .boolean) (7 + d) (134 + 60 * d) [.ref v0, .int v1] z h h' (some (.int r))) (H_X6_readUnit : ∀ {z : Sh} {h : Hp} {v0 : Nat} {v1 : Int32} {r : Int32} {h' : Hp}, g_X6_readUnit z h v0 v1 = some (r, h') → Ct l s0 E yX6_readUnit cX6_readUnit 4 (some .boolean) (7 + d) (134 + 60 * d) [.ref v0, .int v1] z h h' (some (.int r))) : ∀ (h : Hp) (v0 : Nat) (v1 : Int32) (v2 : Int32) (H : Heap) (locs : List Loc) (ls : Array Slot), Pw s0 s E z h H locs → lv_has ls 4 [(0, .ref v0), (1, .int v1), (2, .int v2)] → f_X6_readUnit_145 n g_X6_readSum g_X6_readTerm g_X6_readAtom g_X6_readTruth g_X6_readBoth g_X6_readUnit z h v0 v1 v2 = some (r, h') → W p l e (rmO (7 + (d + 1)) (134 + 60 * (d + 1))) s m args below meth c H locs 0 0 (Zt below s0 E z h' (some (.int r)) args s 0 0) (F0 m 145 ls []) := by
  have hx := B.1
  have hb := B.2.1
  intro h v0 v1 v2 H locs ls hw hl hf
  unfold f_X6_readUnit_145 at hf
  refine lv_aload_n hx hb dX6_readUnit_145 rfl (lv_at hl 0 rfl) ?_
  obtain ⟨h1, e, hf⟩ := ob hf
  refine q_callV (As := []) (rest := []) (st1 := []) (c_X6_next G e) B hw hz hc0 (k_X6_next e) (by decide) (ci := 6) rfl rfl my_X6_next mv_X6_next tw_2_171 ⟨by simp only [rmO, rmA]; omega, by simp only [rmO, rmA]; omega⟩ ⟨Nat.zero_le _, Nat.zero_le _⟩ rfl hl.1 rfl rfl (Nat.le_of_ble_eq_true rfl) dX6_readUnit_146 (fun H locs hw => ?_)
  refine lv_aload_n hx hb dX6_readUnit_149 rfl (lv_at hl 0 rfl) ?_
  refine lv_iload_n hx hb dX6_readUnit_150 rfl (lv_at hl 1 rfl) ?_
  obtain ⟨_, eK, hf⟩ := ob hf
  obtain ⟨⟨x2, h3⟩, e, hf⟩ := ob hf
  refine q_callV (As := [.int v1]) (rest := []) (st1 := [.int x2]) (H_X6_readSum e) B hw hz hc0 ((if_some eK).1) (by decide) (ci := 6) rfl rfl my_X6_readSum mv_X6_readSum tw_3_106 ⟨by simp only [rmO, rmA]; omega, by simp only [rmO, rmA]; omega⟩ ⟨Nat.zero_le _, Nat.zero_le _⟩ rfl hl.1 rfl rfl (Nat.le_of_ble_eq_true rfl) dX6_readUnit_151 (fun H locs hw => ?_)
  refine lv_istore_n (lv' := [(3, .int x2), (0, .ref v0), (1, .int v1), (2, .int v2)]) hx hb dX6_readUnit_154 rfl hl (by decide) rfl (fun ls hl => ?_)
  refine lv_aload_n hx hb dX6_readUnit_155 rfl (lv_at hl 1 rfl) ?_
  refine lv_iload_n hx hb dX6_readUnit_156 rfl (lv_at hl 3 rfl) ?_
  obtain ⟨h4, e, hf⟩ := ob hf
  refine q_callV (As := [.int v2]) (rest := []) (st1 := []) (c_X6_emit G e) B hw hz hc0 (k_X6_emit e) (by decide) (ci := 6) rfl rfl my_X6_emit mv_X6_emit tw_3_118 ⟨by simp only [rmO, rmA]; omega, by simp only [rmO, rmA]; omega⟩ ⟨Nat.zero_le _, Nat.zero_le _⟩ rfl hl.1 rfl rfl (Nat.le_of_ble_eq_true rfl) dX6_readUnit_157 (fun H locs hw => ?_)
  refine lv_iload_n hx hb dX6_readUnit_160 rfl (lv_at hl 0 rfl) ?_
  obtain ⟨x5, e, hf⟩ := ob hf
  obtain ⟨e1, e⟩ := if_some e
  cases e
  obtain ⟨rfl, rfl⟩ := so2 hf
  exact q_zret e1 B hw hz hc0 hr hlk dX6_readUnit_161
set_option maxHeartbeats 4000000 in
theorem w_X6_readUnit_123 {p : Program} {l : Launch} {e : Env} {s : State} {m : MethodId} {args : Array Value} {below : List Frame} {meth : Method} {c : Code} {s0 : State} {E : Ev} {z : Sh} {d : Nat} {g_X6_readSum : Sh → Hp → Nat → Int32 → Option (Int32 × Hp)} {g_X6_readTerm : Sh → Hp → Nat → Int32 → Option (Int32 × Hp)} {g_X6_readAtom : Sh → Hp → Nat → Int32 → Option (Int32 × Hp)} {g_X6_readTruth : Sh → Hp → Nat → Int32 → Option (Int32 × Hp)} {g_X6_readBoth : Sh → Hp → Nat → Int32 → Option (Int32 × Hp)} {g_X6_readUnit : Sh → Hp → Nat → Int32 → Option (Int32 × Hp)} {n : Nat} {r : Int32} {h' : Hp} (G : Gl s0 E) (B : Bd p s0 s E m c cX6_readUnit 4 RX6) (hz : s0.heap.size ≤ z.sz) (hc0 : s.heap.size + 0 = z.sz) (hr : meth.sig.returnType = (some .boolean)) (hlk : meth.locks = false) (H_X6_readSum : ∀ {z : Sh} {h : Hp} {v0 : Nat} {v1 : Int32} {r : Int32} {h' : Hp}, g_X6_readSum z h v0 v1 = some (r, h') → Ct l s0 E yX6_readSum cX6_readSum 5 (some .boolean) (7 + d) (134 + 60 * d) [.ref v0, .int v1] z h h' (some (.int r))) (H_X6_readTerm : ∀ {z : Sh} {h : Hp} {v0 : Nat} {v1 : Int32} {r : Int32} {h' : Hp}, g_X6_readTerm z h v0 v1 = some (r, h') → Ct l s0 E yX6_readTerm cX6_readTerm 4 (some .boolean) (7 + d) (134 + 60 * d) [.ref v0, .int v1] z h h' (some (.int r))) (H_X6_readAtom : ∀ {z : Sh} {h : Hp} {v0 : Nat} {v1 : Int32} {r : Int32} {h' : Hp}, g_X6_readAtom z h v0 v1 = some (r, h') → Ct l s0 E yX6_readAtom cX6_readAtom 3 (some .boolean) (7 + d) (134 + 60 * d) [.ref v0, .int v1] z h h' (some (.int r))) (H_X6_readTruth : ∀ {z : Sh} {h : Hp} {v0 : Nat} {v1 : Int32} {r : Int32} {h' : Hp}, g_X6_readTruth z h v0 v1 = some (r, h') → Ct l s0 E yX6_readTruth cX6_readTruth 4 (some .boolean) (7 + d) (134 + 60 * d) [.ref v0, .int v1] z h h' (some (.int r))) (H_X6_readBoth : ∀ {z : Sh} {h : Hp} {v0 : Nat} {v1 : Int32} {r : Int32} {h' : Hp}, g_X6_readBoth z h v0 v1 = some (r, h') → Ct l s0 E yX6_readBoth cX6_readBoth 4 (some .boolean) (7 + d) (134 + 60 * d) [.ref v0, .int v1] z h h' (some (.int r))) (H_X6_readUnit : ∀ {z : Sh} {h : Hp} {v0 : Nat} {v1 : Int32} {r : Int32} {h' : Hp}, g_X6_readUnit z h v0 v1 = some (r, h') → Ct l s0 E yX6_readUnit cX6_readUnit 4 (some .boolean) (7 + d) (134 + 60 * d) [.ref v0, .int v1] z h h' (some (.int r))) : ∀ (h : Hp) (v0 : Nat) (v1 : Int32) (u0 : Int32) (H : Heap) (locs : List Loc) (ls : Array Slot), Pw s0 s E z h H locs → lv_has ls 4 [(0, .ref v0), (1, .int v1)] → f_X6_readUnit_123 n g_X6_readSum g_X6_readTerm g_X6_readAtom g_X6_readTruth g_X6_readBoth g_X6_readUnit z h v0 v1 u0 = some (r, h') → W p l e (rmO (7 + (d + 1)) (134 + 60 * (d + 1))) s m args below meth c H locs 0 0 (Zt below s0 E z h' (some (.int r)) args s 0 0) (F0 m 123 ls [.int u0]) := by
  have hx := B.1
  have hb := B.2.1
  intro h v0 v1 u0 H locs ls hw hl hf
  unfold f_X6_readUnit_123 at hf
  refine lv_istore_n (lv' := [(2, .int u0), (0, .ref v0), (1, .int v1)]) hx hb dX6_readUnit_123 rfl hl (by decide) rfl (fun ls hl => ?_)
  refine lv_iload_n hx hb dX6_readUnit_124 rfl (lv_at hl 0 rfl) ?_
  refine lv_bipush (v := (-6)) hx hb dX6_readUnit_125 (by decide) ?_
  refine lv_icmp_ne (tgt := 145) hx hb dX6_readUnit_127 (by decide) (fun c1 => ?_) (fun c1 => ?_)
  · have hf := (if_neg c1).symm.trans hf
    exact w_X6_readUnit_145 G B hz hc0 hr hlk H_X6_readSum H_X6_readTerm H_X6_readAtom H_X6_readTruth H_X6_readBoth H_X6_readUnit  h v0 v1 u0 _ _ _ hw (lv_sub hl [1, 2, 0] rfl) hf
  · have hf := (if_pos c1).symm.trans hf
    refine lv_aload_n hx hb dX6_readUnit_130 rfl (lv_at hl 1 rfl) ?_
    refine q_ldcS (tx := ">") G (i := 31) (List.mem_of_getElem? (i := 21) (by decide +kernel)) B hw dX6_readUnit_131 ?_
    obtain ⟨x2, e, hf⟩ := ob hf
    refine q_callV (As := [.ref (z.st 31)]) (rest := []) (st1 := [.int x2]) (c_X6_is G e) B hw hz hc0 (k_X6_is e) (by decide) (ci := 6) rfl rfl my_X6_is mv_X6_is tw_3_42 ⟨by simp only [rmO, rmA]; omega, by simp only [rmO, rmA]; omega⟩ ⟨Nat.zero_le _, Nat.zero_le _⟩ rfl hl.1 rfl rfl (Nat.le_of_ble_eq_true rfl) dX6_readUnit_133 (fun H locs hw => ?_)
    refine lv_if_ne (tgt := 145) hx hb dX6_readUnit_136 (by decide) (fun c3 => ?_) (fun c3 => ?_)
    · have hf := (if_neg c3).symm.trans hf
      exact w_X6_readUnit_145 G B hz hc0 hr hlk H_X6_readSum H_X6_readTerm H_X6_readAtom H_X6_readTruth H_X6_readBoth H_X6_readUnit  h v0 v1 u0 _ _ _ hw (lv_sub hl [1, 2, 0] rfl) hf
    · have hf := (if_pos c3).symm.trans hf
      refine lv_aload_n hx hb dX6_readUnit_139 rfl (lv_at hl 1 rfl) ?_
      refine lv_iconst (v := 2) hx hb dX6_readUnit_140 (by decide) ?_
      obtain ⟨⟨x4, h5⟩, e, hf⟩ := ob hf
      refine q_callV (As := [.int 2]) (rest := []) (st1 := [.int x4]) (c_X6_wrong G e) B hw hz hc0 (k_X6_wrong e) (by decide) (ci := 6) rfl rfl my_X6_wrong mv_X6_wrong tw_3_67 ⟨by simp only [rmO, rmA]; omega, by simp only [rmO, rmA]; omega⟩ ⟨Nat.zero_le _, Nat.zero_le _⟩ rfl hl.1 rfl rfl (Nat.le_of_ble_eq_true rfl) dX6_readUnit_141 (fun H locs hw => ?_)
      obtain ⟨x6, e, hf⟩ := ob hf
      obtain ⟨e1, e⟩ := if_some e
      cases e
      obtain ⟨rfl, rfl⟩ := so2 hf
      exact q_zret e1 B hw hz hc0 hr hlk dX6_readUnit_144
set_option maxHeartbeats 4000000 in
theorem w_X6_readUnit_32 {p : Program} {l : Launch} {e : Env} {s : State} {m : MethodId} {args : Array Value} {below : List Frame} {meth : Method} {c : Code} {s0 : State} {E : Ev} {z : Sh} {d : Nat} {g_X6_readSum : Sh → Hp → Nat → Int32 → Option (Int32 × Hp)} {g_X6_readTerm : Sh → Hp → Nat → Int32 → Option (Int32 × Hp)} {g_X6_readAtom : Sh → Hp → Nat → Int32 → Option (Int32 × Hp)} {g_X6_readTruth : Sh → Hp → Nat → Int32 → Option (Int32 × Hp)} {g_X6_readBoth : Sh → Hp → Nat → Int32 → Option (Int32 × Hp)} {g_X6_readUnit : Sh → Hp → Nat → Int32 → Option (Int32 × Hp)} {n : Nat} {r : Int32} {h' : Hp} (G : Gl s0 E) (B : Bd p s0 s E m c cX6_readUnit 4 RX6) (hz : s0.heap.size ≤ z.sz) (hc0 : s.heap.size + 0 = z.sz) (hr : meth.sig.returnType = (some .boolean)) (hlk : meth.locks = false) (H_X6_readSum : ∀ {z : Sh} {h : Hp} {v0 : Nat} {v1 : Int32} {r : Int32} {h' : Hp}, g_X6_readSum z h v0 v1 = some (r, h') → Ct l s0 E yX6_readSum cX6_readSum 5 (some .boolean) (7 + d) (134 + 60 * d) [.ref v0, .int v1] z h h' (some (.int r))) (H_X6_readTerm : ∀ {z : Sh} {h : Hp} {v0 : Nat} {v1 : Int32} {r : Int32} {h' : Hp}, g_X6_readTerm z h v0 v1 = some (r, h') → Ct l s0 E yX6_readTerm cX6_readTerm 4 (some .boolean) (7 + d) (134 + 60 * d) [.ref v0, .int v1] z h h' (some (.int r))) (H_X6_readAtom : ∀ {z : Sh} {h : Hp} {v0 : Nat} {v1 : Int32} {r : Int32} {h' : Hp}, g_X6_readAtom z h v0 v1 = some (r, h') → Ct l s0 E yX6_readAtom cX6_readAtom 3 (some .boolean) (7 + d) (134 + 60 * d) [.ref v0, .int v1] z h h' (some (.int r))) (H_X6_readTruth : ∀ {z : Sh} {h : Hp} {v0 : Nat} {v1 : Int32} {r : Int32} {h' : Hp}, g_X6_readTruth z h v0 v1 = some (r, h') → Ct l s0 E yX6_readTruth cX6_readTruth 4 (some .boolean) (7 + d) (134 + 60 * d) [.ref v0, .int v1] z h h' (some (.int r))) (H_X6_readBoth : ∀ {z : Sh} {h : Hp} {v0 : Nat} {v1 : Int32} {r : Int32} {h' : Hp}, g_X6_readBoth z h v0 v1 = some (r, h') → Ct l s0 E yX6_readBoth cX6_readBoth 4 (some .boolean) (7 + d) (134 + 60 * d) [.ref v0, .int v1] z h h' (some (.int r))) (H_X6_readUnit : ∀ {z : Sh} {h : Hp} {v0 : Nat} {v1 : Int32} {r : Int32} {h' : Hp}, g_X6_readUnit z h v0 v1 = some (r, h') → Ct l s0 E yX6_readUnit cX6_readUnit 4 (some .boolean) (7 + d) (134 + 60 * d) [.ref v0, .int v1] z h h' (some (.int r))) : ∀ (h : Hp) (v0 : Nat) (u0 : Int32) (H : Heap) (locs : List Loc) (ls : Array Slot), Pw s0 s E z h H locs → lv_has ls 4 [(0, .ref v0)] → f_X6_readUnit_32 n g_X6_readSum g_X6_readTerm g_X6_readAtom g_X6_readTruth g_X6_readBoth g_X6_readUnit z h v0 u0 = some (r, h') → W p l e (rmO (7 + (d + 1)) (134 + 60 * (d + 1))) s m args below meth c H locs 0 0 (Zt below s0 E z h' (some (.int r)) args s 0 0) (F0 m 32 ls [.int u0]) := by
  have hx := B.1
  have hb := B.2.1
  intro h v0 u0 H locs ls hw hl hf
  unfold f_X6_readUnit_32 at hf
  refine lv_istore_n (lv' := [(2, .int u0), (0, .ref v0)]) hx hb dX6_readUnit_32 rfl hl (by decide) rfl (fun ls hl => ?_)
  refine lv_aload_n hx hb dX6_readUnit_33 rfl (lv_at hl 1 rfl) ?_
  refine lv_bipush (v := (-9)) hx hb dX6_readUnit_34 (by decide) ?_
  obtain ⟨h1, e, hf⟩ := ob hf
  refine q_callV (As := [.int (-9)]) (rest := []) (st1 := []) (c_X6_emit G e) B hw hz hc0 (k_X6_emit e) (by decide) (ci := 6) rfl rfl my_X6_emit mv_X6_emit tw_3_118 ⟨by simp only [rmO, rmA]; omega, by simp only [rmO, rmA]; omega⟩ ⟨Nat.zero_le _, Nat.zero_le _⟩ rfl hl.1 rfl rfl (Nat.le_of_ble_eq_true rfl) dX6_readUnit_36 (fun H locs hw => ?_)
  refine lv_iload_n hx hb dX6_readUnit_39 rfl (lv_at hl 0 rfl) ?_
  obtain ⟨x2, e, hf⟩ := ob hf
  obtain ⟨e1, e⟩ := if_some e
  cases e
  obtain ⟨rfl, rfl⟩ := so2 hf
  exact q_zret e1 B hw hz hc0 hr hlk dX6_readUnit_40
set_option maxHeartbeats 4000000 in
theorem w_X6_readUnit_31 {p : Program} {l : Launch} {e : Env} {s : State} {m : MethodId} {args : Array Value} {below : List Frame} {meth : Method} {c : Code} {s0 : State} {E : Ev} {z : Sh} {d : Nat} {g_X6_readSum : Sh → Hp → Nat → Int32 → Option (Int32 × Hp)} {g_X6_readTerm : Sh → Hp → Nat → Int32 → Option (Int32 × Hp)} {g_X6_readAtom : Sh → Hp → Nat → Int32 → Option (Int32 × Hp)} {g_X6_readTruth : Sh → Hp → Nat → Int32 → Option (Int32 × Hp)} {g_X6_readBoth : Sh → Hp → Nat → Int32 → Option (Int32 × Hp)} {g_X6_readUnit : Sh → Hp → Nat → Int32 → Option (Int32 × Hp)} {n : Nat} {r : Int32} {h' : Hp} (G : Gl s0 E) (B : Bd p s0 s E m c cX6_readUnit 4 RX6) (hz : s0.heap.size ≤ z.sz) (hc0 : s.heap.size + 0 = z.sz) (hr : meth.sig.returnType = (some .boolean)) (hlk : meth.locks = false) (H_X6_readSum : ∀ {z : Sh} {h : Hp} {v0 : Nat} {v1 : Int32} {r : Int32} {h' : Hp}, g_X6_readSum z h v0 v1 = some (r, h') → Ct l s0 E yX6_readSum cX6_readSum 5 (some .boolean) (7 + d) (134 + 60 * d) [.ref v0, .int v1] z h h' (some (.int r))) (H_X6_readTerm : ∀ {z : Sh} {h : Hp} {v0 : Nat} {v1 : Int32} {r : Int32} {h' : Hp}, g_X6_readTerm z h v0 v1 = some (r, h') → Ct l s0 E yX6_readTerm cX6_readTerm 4 (some .boolean) (7 + d) (134 + 60 * d) [.ref v0, .int v1] z h h' (some (.int r))) (H_X6_readAtom : ∀ {z : Sh} {h : Hp} {v0 : Nat} {v1 : Int32} {r : Int32} {h' : Hp}, g_X6_readAtom z h v0 v1 = some (r, h') → Ct l s0 E yX6_readAtom cX6_readAtom 3 (some .boolean) (7 + d) (134 + 60 * d) [.ref v0, .int v1] z h h' (some (.int r))) (H_X6_readTruth : ∀ {z : Sh} {h : Hp} {v0 : Nat} {v1 : Int32} {r : Int32} {h' : Hp}, g_X6_readTruth z h v0 v1 = some (r, h') → Ct l s0 E yX6_readTruth cX6_readTruth 4 (some .boolean) (7 + d) (134 + 60 * d) [.ref v0, .int v1] z h h' (some (.int r))) (H_X6_readBoth : ∀ {z : Sh} {h : Hp} {v0 : Nat} {v1 : Int32} {r : Int32} {h' : Hp}, g_X6_readBoth z h v0 v1 = some (r, h') → Ct l s0 E yX6_readBoth cX6_readBoth 4 (some .boolean) (7 + d) (134 + 60 * d) [.ref v0, .int v1] z h h' (some (.int r))) (H_X6_readUnit : ∀ {z : Sh} {h : Hp} {v0 : Nat} {v1 : Int32} {r : Int32} {h' : Hp}, g_X6_readUnit z h v0 v1 = some (r, h') → Ct l s0 E yX6_readUnit cX6_readUnit 4 (some .boolean) (7 + d) (134 + 60 * d) [.ref v0, .int v1] z h h' (some (.int r))) : ∀ (h : Hp) (v0 : Nat) (H : Heap) (locs : List Loc) (ls : Array Slot), Pw s0 s E z h H locs → lv_has ls 4 [(0, .ref v0)] → f_X6_readUnit_31 n g_X6_readSum g_X6_readTerm g_X6_readAtom g_X6_readTruth g_X6_readBoth g_X6_readUnit z h v0 = some (r, h') → W p l e (rmO (7 + (d + 1)) (134 + 60 * (d + 1))) s m args below meth c H locs 0 0 (Zt below s0 E z h' (some (.int r)) args s 0 0) (F0 m 31 ls []) := by
  have hx := B.1
  have hb := B.2.1
  intro h v0 H locs ls hw hl hf
  unfold f_X6_readUnit_31 at hf
  refine lv_iconst (v := 0) hx hb dX6_readUnit_31 (by decide) ?_
  exact w_X6_readUnit_32 G B hz hc0 hr hlk H_X6_readSum H_X6_readTerm H_X6_readAtom H_X6_readTruth H_X6_readBoth H_X6_readUnit  h v0 0 _ _ _ hw (lv_sub hl [0] rfl) hf
set_option maxHeartbeats 4000000 in
theorem co_X6_readUnit {l : Launch} {s0 : State} {E : Ev} (G : Gl s0 E) {n : Nat} {d : Nat} {g_X6_readSum : Sh → Hp → Nat → Int32 → Option (Int32 × Hp)} {g_X6_readTerm : Sh → Hp → Nat → Int32 → Option (Int32 × Hp)} {g_X6_readAtom : Sh → Hp → Nat → Int32 → Option (Int32 × Hp)} {g_X6_readTruth : Sh → Hp → Nat → Int32 → Option (Int32 × Hp)} {g_X6_readBoth : Sh → Hp → Nat → Int32 → Option (Int32 × Hp)} {g_X6_readUnit : Sh → Hp → Nat → Int32 → Option (Int32 × Hp)} (H_X6_readSum : ∀ {z : Sh} {h : Hp} {v0 : Nat} {v1 : Int32} {r : Int32} {h' : Hp}, g_X6_readSum z h v0 v1 = some (r, h') → Ct l s0 E yX6_readSum cX6_readSum 5 (some .boolean) (7 + d) (134 + 60 * d) [.ref v0, .int v1] z h h' (some (.int r))) (H_X6_readTerm : ∀ {z : Sh} {h : Hp} {v0 : Nat} {v1 : Int32} {r : Int32} {h' : Hp}, g_X6_readTerm z h v0 v1 = some (r, h') → Ct l s0 E yX6_readTerm cX6_readTerm 4 (some .boolean) (7 + d) (134 + 60 * d) [.ref v0, .int v1] z h h' (some (.int r))) (H_X6_readAtom : ∀ {z : Sh} {h : Hp} {v0 : Nat} {v1 : Int32} {r : Int32} {h' : Hp}, g_X6_readAtom z h v0 v1 = some (r, h') → Ct l s0 E yX6_readAtom cX6_readAtom 3 (some .boolean) (7 + d) (134 + 60 * d) [.ref v0, .int v1] z h h' (some (.int r))) (H_X6_readTruth : ∀ {z : Sh} {h : Hp} {v0 : Nat} {v1 : Int32} {r : Int32} {h' : Hp}, g_X6_readTruth z h v0 v1 = some (r, h') → Ct l s0 E yX6_readTruth cX6_readTruth 4 (some .boolean) (7 + d) (134 + 60 * d) [.ref v0, .int v1] z h h' (some (.int r))) (H_X6_readBoth : ∀ {z : Sh} {h : Hp} {v0 : Nat} {v1 : Int32} {r : Int32} {h' : Hp}, g_X6_readBoth z h v0 v1 = some (r, h') → Ct l s0 E yX6_readBoth cX6_readBoth 4 (some .boolean) (7 + d) (134 + 60 * d) [.ref v0, .int v1] z h h' (some (.int r))) (H_X6_readUnit : ∀ {z : Sh} {h : Hp} {v0 : Nat} {v1 : Int32} {r : Int32} {h' : Hp}, g_X6_readUnit z h v0 v1 = some (r, h') → Ct l s0 E yX6_readUnit cX6_readUnit 4 (some .boolean) (7 + d) (134 + 60 * d) [.ref v0, .int v1] z h h' (some (.int r))) {z : Sh} {h : Hp} {v0 : Nat} {v1 : Int32} {r : Int32} {h' : Hp} (hf : F_X6_readUnit n g_X6_readSum g_X6_readTerm g_X6_readAtom g_X6_readTruth g_X6_readBoth g_X6_readUnit z h v0 v1 = some (r, h')) : Ct l s0 E yX6_readUnit cX6_readUnit 4 (some .boolean) (7 + (d + 1)) (134 + 60 * (d + 1)) [.ref v0, .int v1] z h h' (some (.int r)) := by
  refine Ct.of G (by decide) (Nat.le_of_ble_eq_true rfl) ?_
  intro p e s m below meth c ls B hw hz hc0 hr hlk hl
  have B : Bd p s0 s E m c cX6_readUnit 4 RX6 := B
  have hx := B.1
  have hb := B.2.1
  have hl : lv_has ls 4 [(0, .ref v0), (1, .int v1)] := hl
  unfold F_X6_readUnit at hf
  obtain ⟨_, hf⟩ := if_some hf
  refine lv_aload_n hx hb dX6_readUnit_0 rfl (lv_at hl 0 rfl) ?_
  refine q_ldcS (tx := "not") G (i := 26) (List.mem_of_getElem? (i := 16) (by decide +kernel)) B hw dX6_readUnit_1 ?_
  obtain ⟨x1, e, hf⟩ := ob hf
  refine q_callV (As := [.ref (z.st 26)]) (rest := []) (st1 := [.int x1]) (c_X6_is G e) B hw hz hc0 (k_X6_is e) (by decide) (ci := 6) rfl rfl my_X6_is mv_X6_is tw_3_42 ⟨by simp only [rmO, rmA]; omega, by simp only [rmO, rmA]; omega⟩ ⟨Nat.zero_le _, Nat.zero_le _⟩ rfl hl.1 rfl rfl (Nat.le_of_ble_eq_true rfl) dX6_readUnit_3 (fun H locs hw => ?_)
  refine lv_if_eq (tgt := 41) hx hb dX6_readUnit_6 (by decide) (fun c2 => ?_) (fun c2 => ?_)
  · have hf := (if_pos c2).symm.trans hf
    refine lv_aload_n hx hb dX6_readUnit_41 rfl (lv_at hl 0 rfl) ?_
    refine q_ldcS (tx := "[") G (i := 27) (List.mem_of_getElem? (i := 17) (by decide +kernel)) B hw dX6_readUnit_42 ?_
    obtain ⟨x3, e, hf⟩ := ob hf
    refine q_callV (As := [.ref (z.st 27)]) (rest := []) (st1 := [.int x3]) (c_X6_is G e) B hw hz hc0 (k_X6_is e) (by decide) (ci := 6) rfl rfl my_X6_is mv_X6_is tw_3_42 ⟨by simp only [rmO, rmA]; omega, by simp only [rmO, rmA]; omega⟩ ⟨Nat.zero_le _, Nat.zero_le _⟩ rfl hl.1 rfl rfl (Nat.le_of_ble_eq_true rfl) dX6_readUnit_44 (fun H locs hw => ?_)
    refine lv_if_eq (tgt := 83) hx hb dX6_readUnit_47 (by decide) (fun c4 => ?_) (fun c4 => ?_)
    · have hf := (if_pos c4).symm.trans hf
      refine lv_aload_n hx hb dX6_readUnit_83 rfl (lv_at hl 0 rfl) ?_
      refine lv_iload_n hx hb dX6_readUnit_84 rfl (lv_at hl 1 rfl) ?_
      obtain ⟨_, eK, hf⟩ := ob hf
      obtain ⟨⟨x5, h6⟩, e, hf⟩ := ob hf
      refine q_callV (As := [.int v1]) (rest := []) (st1 := [.int x5]) (H_X6_readSum e) B hw hz hc0 ((if_some eK).1) (by decide) (ci := 6) rfl rfl my_X6_readSum mv_X6_readSum tw_3_106 ⟨by simp only [rmO, rmA]; omega, by simp only [rmO, rmA]; omega⟩ ⟨Nat.zero_le _, Nat.zero_le _⟩ rfl hl.1 rfl rfl (Nat.le_of_ble_eq_true rfl) dX6_readUnit_85 (fun H locs hw => ?_)
      refine lv_if_ne (tgt := 93) hx hb dX6_readUnit_88 (by decide) (fun c7 => ?_) (fun c7 => ?_)
      · have hf := (if_neg c7).symm.trans hf
        refine lv_aload_n hx hb dX6_readUnit_93 rfl (lv_at hl 0 rfl) ?_
        refine q_ldcS (tx := "=") G (i := 29) (List.mem_of_getElem? (i := 19) (by decide +kernel)) B hw dX6_readUnit_94 ?_
        obtain ⟨x8, e, hf⟩ := ob hf
        refine q_callV (As := [.ref (z.st 29)]) (rest := []) (st1 := [.int x8]) (c_X6_is G e) B hw hz hc0 (k_X6_is e) (by decide) (ci := 6) rfl rfl my_X6_is mv_X6_is tw_3_42 ⟨by simp only [rmO, rmA]; omega, by simp only [rmO, rmA]; omega⟩ ⟨Nat.zero_le _, Nat.zero_le _⟩ rfl hl.1 rfl rfl (Nat.le_of_ble_eq_true rfl) dX6_readUnit_96 (fun H locs hw => ?_)
        refine lv_if_eq (tgt := 107) hx hb dX6_readUnit_99 (by decide) (fun c9 => ?_) (fun c9 => ?_)
        · have hf := (if_pos c9).symm.trans hf
          refine lv_aload_n hx hb dX6_readUnit_107 rfl (lv_at hl 0 rfl) ?_
          refine q_ldcS (tx := "<") G (i := 30) (List.mem_of_getElem? (i := 20) (by decide +kernel)) B hw dX6_readUnit_108 ?_
          obtain ⟨x10, e, hf⟩ := ob hf
          refine q_callV (As := [.ref (z.st 30)]) (rest := []) (st1 := [.int x10]) (c_X6_is G e) B hw hz hc0 (k_X6_is e) (by decide) (ci := 6) rfl rfl my_X6_is mv_X6_is tw_3_42 ⟨by simp only [rmO, rmA]; omega, by simp only [rmO, rmA]; omega⟩ ⟨Nat.zero_le _, Nat.zero_le _⟩ rfl hl.1 rfl rfl (Nat.le_of_ble_eq_true rfl) dX6_readUnit_110 (fun H locs hw => ?_)
          refine lv_if_eq (tgt := 121) hx hb dX6_readUnit_113 (by decide) (fun c11 => ?_) (fun c11 => ?_)
          · have hf := (if_pos c11).symm.trans hf
            refine lv_bipush (v := (-6)) hx hb dX6_readUnit_121 (by decide) ?_
            exact w_X6_readUnit_123 G B hz hc0 hr hlk H_X6_readSum H_X6_readTerm H_X6_readAtom H_X6_readTruth H_X6_readBoth H_X6_readUnit  h6 v0 v1 (-6) _ _ _ hw (lv_sub hl [0, 1] rfl) hf
          · have hf := (if_neg c11).symm.trans hf
            refine lv_bipush (v := (-5)) hx hb dX6_readUnit_116 (by decide) ?_
            refine lv_goto (tgt := 123) hx hb dX6_readUnit_118 (by decide) ?_
            exact w_X6_readUnit_123 G B hz hc0 hr hlk H_X6_readSum H_X6_readTerm H_X6_readAtom H_X6_readTruth H_X6_readBoth H_X6_readUnit  h6 v0 v1 (-5) _ _ _ hw (lv_sub hl [0, 1] rfl) hf
        · have hf := (if_neg c9).symm.trans hf
          refine lv_bipush (v := (-4)) hx hb dX6_readUnit_102 (by decide) ?_
          refine lv_goto (tgt := 123) hx hb dX6_readUnit_104 (by decide) ?_
          exact w_X6_readUnit_123 G B hz hc0 hr hlk H_X6_readSum H_X6_readTerm H_X6_readAtom H_X6_readTruth H_X6_readBoth H_X6_readUnit  h6 v0 v1 (-4) _ _ _ hw (lv_sub hl [0, 1] rfl) hf
      · have hf := (if_pos c7).symm.trans hf
        refine lv_iconst (v := 0) hx hb dX6_readUnit_91 (by decide) ?_
        obtain ⟨rfl, rfl⟩ := so2 hf
        exact q_zret (Or.inl rfl) B hw hz hc0 hr hlk dX6_readUnit_92
    · have hf := (if_neg c4).symm.trans hf
      refine lv_aload_n hx hb dX6_readUnit_50 rfl (lv_at hl 0 rfl) ?_
      refine lv_iload_n hx hb dX6_readUnit_51 rfl (lv_at hl 1 rfl) ?_
      obtain ⟨⟨x12, h13⟩, e, hf⟩ := ob hf
      refine q_callV (As := [.int v1]) (rest := []) (st1 := [.int x12]) (c_X6_deeper G e) B hw hz hc0 (k_X6_deeper e) (by decide) (ci := 6) rfl rfl my_X6_deeper mv_X6_deeper tw_3_123 ⟨by simp only [rmO, rmA]; omega, by simp only [rmO, rmA]; omega⟩ ⟨Nat.zero_le _, Nat.zero_le _⟩ rfl hl.1 rfl rfl (Nat.le_of_ble_eq_true rfl) dX6_readUnit_52 (fun H locs hw => ?_)
      refine lv_if_eq (tgt := 81) hx hb dX6_readUnit_55 (by decide) (fun c14 => ?_) (fun c14 => ?_)
      · have hf := (if_pos c14).symm.trans hf
        refine lv_iconst (v := 0) hx hb dX6_readUnit_81 (by decide) ?_
        obtain ⟨rfl, rfl⟩ := so2 hf
        exact q_zret (Or.inl rfl) B hw hz hc0 hr hlk dX6_readUnit_82
      · have hf := (if_neg c14).symm.trans hf
        refine lv_aload_n hx hb dX6_readUnit_58 rfl (lv_at hl 0 rfl) ?_
        refine lv_iload_n hx hb dX6_readUnit_59 rfl (lv_at hl 1 rfl) ?_
        refine lv_iconst (v := 1) hx hb dX6_readUnit_60 (by decide) ?_
        refine lv_iadd hx hb dX6_readUnit_61 ?_
        obtain ⟨_, eK, hf⟩ := ob hf
        obtain ⟨⟨x15, h16⟩, e, hf⟩ := ob hf
        refine q_callV (As := [.int (v1 + 1)]) (rest := []) (st1 := [.int x15]) (H_X6_readTruth e) B hw hz hc0 ((if_some eK).1) (by decide) (ci := 6) rfl rfl my_X6_readTruth mv_X6_readTruth tw_3_129 ⟨by simp only [rmO, rmA]; omega, by simp only [rmO, rmA]; omega⟩ ⟨Nat.zero_le _, Nat.zero_le _⟩ rfl hl.1 rfl rfl (Nat.le_of_ble_eq_true rfl) dX6_readUnit_62 (fun H locs hw => ?_)
        refine lv_if_eq (tgt := 81) hx hb dX6_readUnit_65 (by decide) (fun c17 => ?_) (fun c17 => ?_)
        · have hf := (if_pos c17).symm.trans hf
          refine lv_iconst (v := 0) hx hb dX6_readUnit_81 (by decide) ?_
          obtain ⟨rfl, rfl⟩ := so2 hf
          exact q_zret (Or.inl rfl) B hw hz hc0 hr hlk dX6_readUnit_82
        · have hf := (if_neg c17).symm.trans hf
          refine lv_aload_n hx hb dX6_readUnit_68 rfl (lv_at hl 0 rfl) ?_
          refine q_ldcS (tx := "]") G (i := 28) (List.mem_of_getElem? (i := 18) (by decide +kernel)) B hw dX6_readUnit_69 ?_
          obtain ⟨⟨x18, h19⟩, e, hf⟩ := ob hf
          refine q_callV (As := [.ref (z.st 28)]) (rest := []) (st1 := [.int x18]) (c_X6_take G e) B hw hz hc0 (k_X6_take e) (by decide) (ci := 6) rfl rfl my_X6_take mv_X6_take tw_3_38 ⟨by simp only [rmO, rmA]; omega, by simp only [rmO, rmA]; omega⟩ ⟨Nat.zero_le _, Nat.zero_le _⟩ rfl hl.1 rfl rfl (Nat.le_of_ble_eq_true rfl) dX6_readUnit_71 (fun H locs hw => ?_)
          refine lv_if_eq (tgt := 81) hx hb dX6_readUnit_74 (by decide) (fun c20 => ?_) (fun c20 => ?_)
          · have hf := (if_pos c20).symm.trans hf
            refine lv_iconst (v := 0) hx hb dX6_readUnit_81 (by decide) ?_
            obtain ⟨rfl, rfl⟩ := so2 hf
            exact q_zret (Or.inl rfl) B hw hz hc0 hr hlk dX6_readUnit_82
          · have hf := (if_neg c20).symm.trans hf
            refine lv_iconst (v := 1) hx hb dX6_readUnit_77 (by decide) ?_
            refine lv_goto (tgt := 82) hx hb dX6_readUnit_78 (by decide) ?_
            obtain ⟨rfl, rfl⟩ := so2 hf
            exact q_zret (Or.inr rfl) B hw hz hc0 hr hlk dX6_readUnit_82
  · have hf := (if_neg c2).symm.trans hf
    refine lv_aload_n hx hb dX6_readUnit_9 rfl (lv_at hl 0 rfl) ?_
    refine lv_iload_n hx hb dX6_readUnit_10 rfl (lv_at hl 1 rfl) ?_
    obtain ⟨⟨x21, h22⟩, e, hf⟩ := ob hf
    refine q_callV (As := [.int v1]) (rest := []) (st1 := [.int x21]) (c_X6_deeper G e) B hw hz hc0 (k_X6_deeper e) (by decide) (ci := 6) rfl rfl my_X6_deeper mv_X6_deeper tw_3_123 ⟨by simp only [rmO, rmA]; omega, by simp only [rmO, rmA]; omega⟩ ⟨Nat.zero_le _, Nat.zero_le _⟩ rfl hl.1 rfl rfl (Nat.le_of_ble_eq_true rfl) dX6_readUnit_11 (fun H locs hw => ?_)
    refine lv_if_eq (tgt := 31) hx hb dX6_readUnit_14 (by decide) (fun c23 => ?_) (fun c23 => ?_)
    · have hf := (if_pos c23).symm.trans hf
      exact w_X6_readUnit_31 G B hz hc0 hr hlk H_X6_readSum H_X6_readTerm H_X6_readAtom H_X6_readTruth H_X6_readBoth H_X6_readUnit  h22 v0 _ _ _ hw (lv_sub hl [0] rfl) hf
    · have hf := (if_neg c23).symm.trans hf
      refine lv_aload_n hx hb dX6_readUnit_17 rfl (lv_at hl 0 rfl) ?_
      refine lv_iload_n hx hb dX6_readUnit_18 rfl (lv_at hl 1 rfl) ?_
      refine lv_iconst (v := 1) hx hb dX6_readUnit_19 (by decide) ?_
      refine lv_iadd hx hb dX6_readUnit_20 ?_
      obtain ⟨_, eK, hf⟩ := ob hf
      obtain ⟨⟨x24, h25⟩, e, hf⟩ := ob hf
      refine q_callV (As := [.int (v1 + 1)]) (rest := []) (st1 := [.int x24]) (H_X6_readUnit e) B hw hz hc0 ((if_some eK).1) (by decide) (ci := 6) rfl rfl my_X6_readUnit mv_X6_readUnit tw_3_137 ⟨by simp only [rmO, rmA]; omega, by simp only [rmO, rmA]; omega⟩ ⟨Nat.zero_le _, Nat.zero_le _⟩ rfl hl.1 rfl rfl (Nat.le_of_ble_eq_true rfl) dX6_readUnit_21 (fun H locs hw => ?_)
      refine lv_if_eq (tgt := 31) hx hb dX6_readUnit_24 (by decide) (fun c26 => ?_) (fun c26 => ?_)
      · have hf := (if_pos c26).symm.trans hf
        exact w_X6_readUnit_31 G B hz hc0 hr hlk H_X6_readSum H_X6_readTerm H_X6_readAtom H_X6_readTruth H_X6_readBoth H_X6_readUnit  h25 v0 _ _ _ hw (lv_sub hl [0] rfl) hf
      · have hf := (if_neg c26).symm.trans hf
        refine lv_iconst (v := 1) hx hb dX6_readUnit_27 (by decide) ?_
        refine lv_goto (tgt := 32) hx hb dX6_readUnit_28 (by decide) ?_
        exact w_X6_readUnit_32 G B hz hc0 hr hlk H_X6_readSum H_X6_readTerm H_X6_readAtom H_X6_readTruth H_X6_readBoth H_X6_readUnit  h25 v0 1 _ _ _ hw (lv_sub hl [0] rfl) hf
set_option maxHeartbeats 4000000 in
theorem cg_X6_readSum {l : Launch} {s0 : State} {E : Ev} (G : Gl s0 E) {n : Nat} : ∀ d : Nat, (∀ {z : Sh} {h : Hp} {v0 : Nat} {v1 : Int32} {r : Int32} {h' : Hp}, (rc_X6_readSum n d).1 z h v0 v1 = some (r, h') → Ct l s0 E yX6_readSum cX6_readSum 5 (some .boolean) (7 + d) (134 + 60 * d) [.ref v0, .int v1] z h h' (some (.int r))) ∧ (∀ {z : Sh} {h : Hp} {v0 : Nat} {v1 : Int32} {r : Int32} {h' : Hp}, (rc_X6_readSum n d).2.1 z h v0 v1 = some (r, h') → Ct l s0 E yX6_readTerm cX6_readTerm 4 (some .boolean) (7 + d) (134 + 60 * d) [.ref v0, .int v1] z h h' (some (.int r))) ∧ (∀ {z : Sh} {h : Hp} {v0 : Nat} {v1 : Int32} {r : Int32} {h' : Hp}, (rc_X6_readSum n d).2.2.1 z h v0 v1 = some (r, h') → Ct l s0 E yX6_readAtom cX6_readAtom 3 (some .boolean) (7 + d) (134 + 60 * d) [.ref v0, .int v1] z h h' (some (.int r))) ∧ (∀ {z : Sh} {h : Hp} {v0 : Nat} {v1 : Int32} {r : Int32} {h' : Hp}, (rc_X6_readSum n d).2.2.2.1 z h v0 v1 = some (r, h') → Ct l s0 E yX6_readTruth cX6_readTruth 4 (some .boolean) (7 + d) (134 + 60 * d) [.ref v0, .int v1] z h h' (some (.int r))) ∧ (∀ {z : Sh} {h : Hp} {v0 : Nat} {v1 : Int32} {r : Int32} {h' : Hp}, (rc_X6_readSum n d).2.2.2.2.1 z h v0 v1 = some (r, h') → Ct l s0 E yX6_readBoth cX6_readBoth 4 (some .boolean) (7 + d) (134 + 60 * d) [.ref v0, .int v1] z h h' (some (.int r))) ∧ (∀ {z : Sh} {h : Hp} {v0 : Nat} {v1 : Int32} {r : Int32} {h' : Hp}, (rc_X6_readSum n d).2.2.2.2.2 z h v0 v1 = some (r, h') → Ct l s0 E yX6_readUnit cX6_readUnit 4 (some .boolean) (7 + d) (134 + 60 * d) [.ref v0, .int v1] z h h' (some (.int r))) := by
  intro d
  induction d with
  | zero => exact ⟨fun hf => (by cases hf), fun hf => (by cases hf), fun hf => (by cases hf), fun hf => (by cases hf), fun hf => (by cases hf), fun hf => (by cases hf)⟩
  | succ d ih => exact ⟨fun hf => co_X6_readSum (n := n) G (fun hf => ih.1 hf) (fun hf => ih.2.1 hf) (fun hf => ih.2.2.1 hf) (fun hf => ih.2.2.2.1 hf) (fun hf => ih.2.2.2.2.1 hf) (fun hf => ih.2.2.2.2.2 hf) hf, fun hf => co_X6_readTerm (n := n) G (fun hf => ih.1 hf) (fun hf => ih.2.1 hf) (fun hf => ih.2.2.1 hf) (fun hf => ih.2.2.2.1 hf) (fun hf => ih.2.2.2.2.1 hf) (fun hf => ih.2.2.2.2.2 hf) hf, fun hf => co_X6_readAtom (n := n) G (fun hf => ih.1 hf) (fun hf => ih.2.1 hf) (fun hf => ih.2.2.1 hf) (fun hf => ih.2.2.2.1 hf) (fun hf => ih.2.2.2.2.1 hf) (fun hf => ih.2.2.2.2.2 hf) hf, fun hf => co_X6_readTruth (n := n) G (fun hf => ih.1 hf) (fun hf => ih.2.1 hf) (fun hf => ih.2.2.1 hf) (fun hf => ih.2.2.2.1 hf) (fun hf => ih.2.2.2.2.1 hf) (fun hf => ih.2.2.2.2.2 hf) hf, fun hf => co_X6_readBoth (n := n) G (fun hf => ih.1 hf) (fun hf => ih.2.1 hf) (fun hf => ih.2.2.1 hf) (fun hf => ih.2.2.2.1 hf) (fun hf => ih.2.2.2.2.1 hf) (fun hf => ih.2.2.2.2.2 hf) hf, fun hf => co_X6_readUnit (n := n) G (fun hf => ih.1 hf) (fun hf => ih.2.1 hf) (fun hf => ih.2.2.1 hf) (fun hf => ih.2.2.2.1 hf) (fun hf => ih.2.2.2.2.1 hf) (fun hf => ih.2.2.2.2.2 hf) hf⟩
theorem c_X6_readSum {l : Launch} {s0 : State} {E : Ev} (G : Gl s0 E) {n : Nat} {z : Sh} {h : Hp} {v0 : Nat} {v1 : Int32} {r : Int32} {h' : Hp} (hf : f_X6_readSum n z h v0 v1 = some (r, h')) : Ct l s0 E yX6_readSum cX6_readSum 5 (some .boolean) 67 3734 [.ref v0, .int v1] z h h' (some (.int r)) := (cg_X6_readSum G 60).1 hf
theorem c_X6_readTerm {l : Launch} {s0 : State} {E : Ev} (G : Gl s0 E) {n : Nat} {z : Sh} {h : Hp} {v0 : Nat} {v1 : Int32} {r : Int32} {h' : Hp} (hf : f_X6_readTerm n z h v0 v1 = some (r, h')) : Ct l s0 E yX6_readTerm cX6_readTerm 4 (some .boolean) 67 3734 [.ref v0, .int v1] z h h' (some (.int r)) := (cg_X6_readSum G 60).2.1 hf
theorem c_X6_readAtom {l : Launch} {s0 : State} {E : Ev} (G : Gl s0 E) {n : Nat} {z : Sh} {h : Hp} {v0 : Nat} {v1 : Int32} {r : Int32} {h' : Hp} (hf : f_X6_readAtom n z h v0 v1 = some (r, h')) : Ct l s0 E yX6_readAtom cX6_readAtom 3 (some .boolean) 67 3734 [.ref v0, .int v1] z h h' (some (.int r)) := (cg_X6_readSum G 60).2.2.1 hf
theorem c_X6_readTruth {l : Launch} {s0 : State} {E : Ev} (G : Gl s0 E) {n : Nat} {z : Sh} {h : Hp} {v0 : Nat} {v1 : Int32} {r : Int32} {h' : Hp} (hf : f_X6_readTruth n z h v0 v1 = some (r, h')) : Ct l s0 E yX6_readTruth cX6_readTruth 4 (some .boolean) 67 3734 [.ref v0, .int v1] z h h' (some (.int r)) := (cg_X6_readSum G 60).2.2.2.1 hf
theorem c_X6_readBoth {l : Launch} {s0 : State} {E : Ev} (G : Gl s0 E) {n : Nat} {z : Sh} {h : Hp} {v0 : Nat} {v1 : Int32} {r : Int32} {h' : Hp} (hf : f_X6_readBoth n z h v0 v1 = some (r, h')) : Ct l s0 E yX6_readBoth cX6_readBoth 4 (some .boolean) 67 3734 [.ref v0, .int v1] z h h' (some (.int r)) := (cg_X6_readSum G 60).2.2.2.2.1 hf
theorem c_X6_readUnit {l : Launch} {s0 : State} {E : Ev} (G : Gl s0 E) {n : Nat} {z : Sh} {h : Hp} {v0 : Nat} {v1 : Int32} {r : Int32} {h' : Hp} (hf : f_X6_readUnit n z h v0 v1 = some (r, h')) : Ct l s0 E yX6_readUnit cX6_readUnit 4 (some .boolean) 67 3734 [.ref v0, .int v1] z h h' (some (.int r)) := (cg_X6_readSum G 60).2.2.2.2.2 hf
