noncomputable def Sf_lowestOf_2_B (K2 : Int32 → Int32 → gx_R → Option (Int32 × gx_R)) (a0 : Int32) (a1 : Int32) (σ : gx_R) : Option (Int32 × gx_R) :=
  if (8 : Int32) ≤ a1 then
    some ((-1 : Int32), σ)
  else
    if ((a0 >>> (a1 &&& 31)) &&& (1 : Int32)) = (1 : Int32) then
      some (a1, σ)
    else
      K2 a0 (a1 + 1) σ
noncomputable def Sf_lowestOf_2 : Nat → Int32 → Int32 → gx_R → Option (Int32 × gx_R)
  | 0, _, _, _ => none
  | n + 1, a0, a1, σ => Sf_lowestOf_2_B (Sf_lowestOf_2 n) a0 a1 σ
noncomputable def Sf_lowestOf (a0 : Int32) (σ : gx_R) : Option (Int32 × gx_R) :=
  Sf_lowestOf_2 z_FU a0 (0 : Int32) σ
noncomputable def Sf_takeTurn_73 (σ : gx_R) : Option (Int32 × gx_R) :=
  some ((0 : Int32), σ)
noncomputable def Sf_takeTurn_88 (a2 : Int32) (a3 : Int32) (σ : gx_R) : Option (Int32 × gx_R) :=
  if a2 = (4 : Int32) then
    z_bd (Sf_isDoing a3 (2 : Int32) σ) (fun r42 σ43 =>
    if r42 = 0 then
      some ((0 : Int32), σ43)
    else
      z_bd (Cl_wokenBy a3 σ43) (fun r46 σ47 =>
      z_bd (Ni_makeIdle 9 r46 σ47) (fun _ σ50 =>
      some ((0 : Int32), σ50))))
  else
    some ((0 : Int32), σ)
noncomputable def Sf_takeTurn_74 (a2 : Int32) (a3 : Int32) (a4 : Int32) (σ : gx_R) : Option (Int32 × gx_R) :=
  if a2 = (3 : Int32) then
    z_bd (Sf_isDoing a3 (0 : Int32) σ) (fun r34 σ35 =>
    if r34 = 0 then
      Sf_takeTurn_88 a2 a3 σ35
    else
      z_bd (Ni_begin 9 a3 (1 : Int32) a4 σ35) (fun _ σ39 =>
      some ((0 : Int32), σ39)))
  else
    Sf_takeTurn_88 a2 a3 σ
noncomputable def Sf_takeTurn_44 (a2 : Int32) (a3 : Int32) (s0 : Int32) (σ : gx_R) : Option (Int32 × gx_R) :=
  if (3 : Int32) ≤ a2 then
    Sf_takeTurn_74 a2 a3 s0 σ
  else
    z_bd (Sf_isDoing a3 (0 : Int32) σ) (fun r18 σ19 =>
    if r18 = 0 then
      Sf_takeTurn_74 a2 a3 s0 σ19
    else
      z_ck (z_ix a3 8) (
      z_bd (Ni_those 9 (1 : Int32) σ19) (fun r23 σ24 =>
      z_bd (Sf_lowestOf ((σ19 5 a3.toNatClampNeg) &&& r23) σ24) (fun r26 σ27 =>
      if r26 = (-1 : Int32) then
        Sf_takeTurn_73 σ27
      else
        z_bd (Ni_begin 9 a3 (2 : Int32) r26 σ27) (fun _ σ31 =>
        Sf_takeTurn_73 σ31)))))
noncomputable def Sf_takeTurn_26 (a2 : Int32) (σ : gx_R) : Option (Int32 × gx_R) :=
  z_bd (Ni_draw 9 (σ 2 0) σ) (fun r10 σ11 =>
  if a2 = (3 : Int32) then
    z_bd (Ni_draw 9 (σ11 2 1) σ11) (fun r14 σ15 =>
    Sf_takeTurn_44 a2 r10 r14 σ15)
  else
    Sf_takeTurn_44 a2 r10 (-1 : Int32) σ11)
noncomputable def Sf_takeTurn (σ : gx_R) : Option (Int32 × gx_R) :=
  z_bd (Ni_draw 9 (8 : Int32) σ) (fun r1 σ2 =>
  if r1 ≤ (4 : Int32) then
    if r1 = (3 : Int32) then
      if (σ2 2 1) = 0 then
        some ((0 : Int32), σ2)
      else
        Sf_takeTurn_26 r1 σ2
    else
      Sf_takeTurn_26 r1 σ2
  else
    z_bd (Sf_passHours (1 : Int32) (0 : Int32) σ2) (fun r7 σ8 =>
    some (r7, σ8)))
noncomputable def Sf_year_44_B (K44 : Int32 → Int32 → Int32 → gx_R → Option (Int32 × gx_R)) (a2 : Int32) (a4 : Int32) (a5 : Int32) (σ : gx_R) : Option (Int32 × gx_R) :=
  if a2 ≤ a5 then
    some (a4, σ)
  else
    z_bd (Sf_takeTurn σ) (fun r11 σ12 =>
    K44 a2 (a4 + r11) (a5 + 1) σ12)
noncomputable def Sf_year_44 : Nat → Int32 → Int32 → Int32 → gx_R → Option (Int32 × gx_R)
  | 0, _, _, _, _ => none
  | n + 1, a2, a4, a5, σ => Sf_year_44_B (Sf_year_44 n) a2 a4 a5 σ
noncomputable def Sf_year_13 (K14 : Int32 → Int32 → Int32 → gx_R → Option (Int32 × gx_R)) (a1 : Int32) (a2 : Int32) (σ : gx_R) : Option (Int32 × gx_R) :=
  K14 a1 a2 (0 : Int32) σ
noncomputable def Sf_year_14 (a1 : Int32) (a2 : Int32) (s0 : Int32) (σ : gx_R) : Option (Int32 × gx_R) :=
  if s0 = 0 then
    some ((-1 : Int32), σ)
  else
    if (σ 2 0) = 0 then
      some ((-1 : Int32), σ)
    else
      z_bd (St_push σ) (fun _ σ8 =>
      Sf_year_44 z_FU a2 (0 : Int32) (0 : Int32) (gx_up σ8 9 7 ((a1 * (2 : Int32)) + (43 : Int32))))
noncomputable def Sf_year (a1 : Int32) (a2 : Int32) (σ : gx_R) : Option (Int32 × gx_R) :=
  if a1 < 0 then
    Sf_year_13 (Sf_year_14) a1 a2 σ
  else
    if (9999 : Int32) < a1 then
      Sf_year_13 (Sf_year_14) a1 a2 σ
    else
      if a2 < (1 : Int32) then
        Sf_year_13 (Sf_year_14) a1 a2 σ
      else
        if (30 : Int32) < a2 then
          Sf_year_13 (Sf_year_14) a1 a2 σ
        else
          Sf_year_14 a1 a2 (1 : Int32) σ
noncomputable def Sf_putBytes_2_B (K2 : Int32 → Int32 → gx_R → Option (Unit × gx_R)) (a1 : Int32) (a2 : Int32) (σ : gx_R) : Option (Unit × gx_R) :=
  if a2 < 0 then
    some ((), σ)
  else
    if (nI 300) ≤ (σ 0 4) then
      some ((), σ)
    else
      z_ck (z_ix (σ 0 4) 300) (
      K2 a1 (a2 + (-8)) (gx_up (gx_up σ 38 (σ 0 4).toNatClampNeg ((a1 >>> (a2 &&& 31)) &&& (255 : Int32))) 0 4 (((gx_up σ 38 (σ 0 4).toNatClampNeg ((a1 >>> (a2 &&& 31)) &&& (255 : Int32))) 0 4) + (1 : Int32))))
noncomputable def Sf_putBytes_2 : Nat → Int32 → Int32 → gx_R → Option (Unit × gx_R)
  | 0, _, _, _ => none
  | n + 1, a1, a2, σ => Sf_putBytes_2_B (Sf_putBytes_2 n) a1 a2 σ
noncomputable def Sf_putBytes (a1 : Int32) (σ : gx_R) : Option (Unit × gx_R) :=
  Sf_putBytes_2 z_FU a1 (24 : Int32) σ
noncomputable def Sf_feed (a1 : Int32) (a2 : Int32) (a3 : Int32) (a4 : Int32) (a5 : Int32) (σ : gx_R) : Option (Int32 × gx_R) :=
  if (σ 0 4) ≤ (280 : Int32) then
    z_bd (Sf_putBytes a1 σ) (fun _ σ3 =>
    z_bd (Sf_putBytes a2 σ3) (fun _ σ6 =>
    z_bd (Sf_putBytes a3 σ6) (fun _ σ9 =>
    z_bd (Sf_putBytes a4 σ9) (fun _ σ12 =>
    z_bd (Sf_putBytes a5 σ12) (fun _ σ15 =>
    some ((σ15 0 4), σ15))))))
  else
    some ((-1 : Int32), σ)
noncomputable def Sf_end (a1 : Int32) (σ : gx_R) : Option (Int32 × gx_R) :=
  if a1 < 0 then
    some ((-1 : Int32), σ)
  else
    if a1 ≤ (σ 0 4) then
      some (a1, (gx_up σ 0 4 a1))
    else
      some ((-1 : Int32), σ)
noncomputable def Sf_text (σ : gx_R) : Option (Int32 × gx_R) :=
  if (σ 1 4) < 0 then
    some ((-1 : Int32), σ)
  else
    if (σ 1 4) < (nI 4) then
      z_bd (Re_read (σ 0 4) σ) (fun r3 σ4 =>
      if r3 = 0 then
        some ((-1 : Int32), (gx_up σ4 0 4 (0 : Int32)))
      else
        z_ck (z_ix (σ 1 4) 4) (
        z_bd (Te_copy (81 + 7 * (σ 1 4).toNatClampNeg) (gx_up σ4 0 4 (0 : Int32))) (fun _ σ9 =>
        some ((σ 1 4), (gx_up σ9 1 4 ((σ 1 4) + (1 : Int32)))))))
    else
      some ((-1 : Int32), σ)
noncomputable def Sf_fault (a1 : Int32) (σ : gx_R) : Option (Int32 × gx_R) :=
  if a1 = 0 then
    some ((σ 39 11), σ)
  else
    if a1 = (1 : Int32) then
      some ((σ 39 12), σ)
    else
      some ((-1 : Int32), σ)
noncomputable def Sf_by (a1 : Int32) (σ : gx_R) : Option (Int32 × gx_R) :=
  if a1 < (-1 : Int32) then
    some ((0 : Int32), σ)
  else
    if a1 < (σ 1 4) then
      some ((1 : Int32), (gx_up σ 1 5 a1))
    else
      some ((0 : Int32), σ)
noncomputable def Sf_perform (b1 : Nat) (a2 : Int32) (σ : gx_R) : Option (Int32 × gx_R) :=
  z_ck (z_ix a2 24) (
  z_ck (z_ix a2 24) (
  z_ck (z_ix a2 24) (
  if (σ (b1 + 1) a2.toNatClampNeg) = (4 : Int32) then
    z_bd (Sf_wake (σ (b1 + 2) a2.toNatClampNeg) (σ (b1 + 3) a2.toNatClampNeg) σ) (fun r5 σ6 =>
    z_ck (z_bo r5) (
    some (r5, σ6)))
  else
  if (σ (b1 + 1) a2.toNatClampNeg) = (5 : Int32) then
    z_bd (Sf_sleep (σ (b1 + 2) a2.toNatClampNeg) (σ (b1 + 3) a2.toNatClampNeg) σ) (fun r10 σ11 =>
    z_ck (z_bo r10) (
    some (r10, σ11)))
  else
  if (σ (b1 + 1) a2.toNatClampNeg) = (6 : Int32) then
    z_bd (Sf_idle (σ (b1 + 2) a2.toNatClampNeg) σ) (fun r15 σ16 =>
    z_ck (z_bo r15) (
    some (r15, σ16)))
  else
  if (σ (b1 + 1) a2.toNatClampNeg) = (7 : Int32) then
    z_bd (Sf_call (σ (b1 + 2) a2.toNatClampNeg) σ) (fun r20 σ21 =>
    if r20 = (-1 : Int32) then
      some ((0 : Int32), σ21)
    else
      some ((1 : Int32), σ21))
  else
  if (σ (b1 + 1) a2.toNatClampNeg) = (8 : Int32) then
    z_ck (z_ix a2 24) (
    z_bd (Sf_repay (σ (b1 + 2) a2.toNatClampNeg) (σ (b1 + 3) a2.toNatClampNeg) (σ (b1 + 4) a2.toNatClampNeg) σ) (fun r26 σ27 =>
    if r26 = (-1 : Int32) then
      some ((0 : Int32), σ27)
    else
      some ((1 : Int32), σ27)))
  else
    z_bd (Sf_passHours (σ (b1 + 2) a2.toNatClampNeg) (1 : Int32) σ) (fun r31 σ32 =>
    if (σ32 9 6) = ((σ 9 6) + (σ (b1 + 2) a2.toNatClampNeg)) then
      some ((1 : Int32), σ32)
    else
      some ((0 : Int32), σ32)))))
noncomputable def Sf_played_41 (K21 : Nat → Int32 → gx_R → Option (Int32 × gx_R)) (b2 : Nat) (a3 : Int32) (σ : gx_R) : Option (Int32 × gx_R) :=
  K21 b2 (a3 + 1) σ
noncomputable def Sf_played_21_B (K21 : Nat → Int32 → gx_R → Option (Int32 × gx_R)) (b2 : Nat) (a3 : Int32) (σ : gx_R) : Option (Int32 × gx_R) :=
  if (σ b2 4) ≤ a3 then
    some ((-1 : Int32), σ)
  else
    if (24 : Int32) ≤ a3 then
      some ((-1 : Int32), σ)
    else
      z_ck (z_ix a3 24) (
      if (σ (b2 + 1) a3.toNatClampNeg) < (4 : Int32) then
        Sf_played_41 K21 b2 a3 σ
      else
        z_bd (Sf_perform b2 a3 σ) (fun r9 σ10 =>
        if r9 = 0 then
          some (a3, σ10)
        else
          Sf_played_41 K21 b2 a3 σ10))
noncomputable def Sf_played_21 : Nat → Nat → Int32 → gx_R → Option (Int32 × gx_R)
  | 0, _, _, _ => none
  | n + 1, b2, a3, σ => Sf_played_21_B (Sf_played_21 n) b2 a3 σ
noncomputable def Sf_played (a1 : Int32) (σ : gx_R) : Option (Int32 × gx_R) :=
  if a1 < 0 then
    some ((-2 : Int32), σ)
  else
    if (σ 1 4) ≤ a1 then
      some ((-2 : Int32), σ)
    else
      if a1 < (nI 4) then
        z_ck (z_ix a1 4) (
        Sf_played_21 z_FU (81 + 7 * a1.toNatClampNeg) (0 : Int32) σ)
      else
        some ((-2 : Int32), σ)
noncomputable def Sf_undo (σ : gx_R) : Option (Int32 × gx_R) :=
  z_bd (St_pop σ) (fun r1 σ2 =>
  if r1 = 0 then
    some ((-1 : Int32), σ2)
  else
    some ((σ2 16 2), σ2))
noncomputable def Sf_of (a1 : Int32) (a2 : Int32) (σ : gx_R) : Option (Int32 × gx_R) :=
  z_bd (Fo_isPerson a1 σ) (fun r1 σ2 =>
  if r1 = 0 then
    some ((-2 : Int32), σ2)
  else
    if a2 = (0 : Int32) then
      z_ck (z_ix a1 8) (
      some ((σ2 3 a1.toNatClampNeg), σ2))
    else
    if a2 = (1 : Int32) then
      z_ck (z_ix a1 8) (
      some ((σ2 4 a1.toNatClampNeg), σ2))
    else
    if a2 = (2 : Int32) then
      z_ck (z_ix a1 8) (
      some ((σ2 10 a1.toNatClampNeg), σ2))
    else
    if a2 = (3 : Int32) then
      z_ck (z_ix a1 8) (
      some ((σ2 11 a1.toNatClampNeg), σ2))
    else
    if a2 = (4 : Int32) then
      z_ck (z_ix a1 8) (
      some ((σ2 12 a1.toNatClampNeg), σ2))
    else
    if a2 = (5 : Int32) then
      z_ck (z_ix a1 8) (
      some ((σ2 13 a1.toNatClampNeg), σ2))
    else
    if a2 = (6 : Int32) then
      z_ck (z_ix a1 8) (
      some ((σ2 5 a1.toNatClampNeg), σ2))
    else
    if a2 = (7 : Int32) then
      z_ck (z_ix a1 8) (
      some ((σ2 6 a1.toNatClampNeg), σ2))
    else
    if a2 = (8 : Int32) then
      z_ck (z_ix a1 8) (
      z_bd (La_soundOf a1 (σ2 12 a1.toNatClampNeg) (σ2 9 6) σ2) (fun r23 σ24 =>
      some (r23, σ24)))
    else
    if a2 = (9 : Int32) then
      z_bd (Sf_isDoing a1 (1 : Int32) σ2) (fun r27 σ28 =>
      if r27 = 0 then
        some ((-1 : Int32), σ28)
      else
        z_bd (La_burnNow 9 a1 σ28) (fun r31 σ32 =>
        some (r31, σ32)))
    else
    if a2 = (10 : Int32) then
      z_bd (Sf_isDoing a1 (2 : Int32) σ2) (fun r35 σ36 =>
      if r35 = 0 then
        some ((-1 : Int32), σ36)
      else
        z_ck (z_ix a1 8) (
        z_bd (La_worthNow a1 (σ36 13 a1.toNatClampNeg) σ36) (fun r40 σ41 =>
        some (r40, σ41))))
    else
    if a2 = (11 : Int32) then
      z_bd (Sf_isDoing a1 (1 : Int32) σ2) (fun r44 σ45 =>
      if r44 = 0 then
        some ((-1 : Int32), σ45)
      else
        z_bd (La_fuelNow 9 a1 σ45) (fun r48 σ49 =>
        some (r48, σ49)))
    else
      some ((-2 : Int32), σ2))
noncomputable def Sf_ofWork (a1 : Int32) (a2 : Int32) (σ : gx_R) : Option (Int32 × gx_R) :=
  z_bd (Fo_isWork a1 σ) (fun r1 σ2 =>
  if r1 = 0 then
    some ((-1 : Int32), σ2)
  else
    if a2 = (0 : Int32) then
      z_ck (z_ix a1 6) (
      some ((σ2 7 a1.toNatClampNeg), σ2))
    else
    if a2 = (1 : Int32) then
      z_ck (z_ix a1 6) (
      some ((σ2 8 a1.toNatClampNeg), σ2))
    else
    if a2 = (2 : Int32) then
      z_ck (z_ix a1 6) (
      some ((σ2 15 a1.toNatClampNeg), σ2))
    else
      some ((-1 : Int32), σ2))
noncomputable def Sf_owes (a1 : Int32) (a2 : Int32) (σ : gx_R) : Option (Int32 × gx_R) :=
  z_bd (Fo_isPerson a1 σ) (fun r1 σ2 =>
  if r1 = 0 then
    some ((-1 : Int32), σ2)
  else
    z_bd (Fo_isPerson a2 σ2) (fun r5 σ6 =>
    if r5 = 0 then
      some ((-1 : Int32), σ6)
    else
      z_ck (z_ix ((a1 * (8 : Int32)) + a2) 64) (
      some ((σ6 14 (((a1 * (8 : Int32)) + a2).toNatClampNeg)), σ6))))
noncomputable def Sf_kept_19 (K20 : Int32 → Int32 → Int32 → gx_R → Option (Int32 × gx_R)) (a1 : Int32) (a2 : Int32) (σ : gx_R) : Option (Int32 × gx_R) :=
  K20 a1 a2 (0 : Int32) σ
noncomputable def Sf_kept_20 (a1 : Int32) (a2 : Int32) (s0 : Int32) (σ : gx_R) : Option (Int32 × gx_R) :=
  if s0 = 0 then
    some ((-1 : Int32), σ)
  else
    if a2 < 0 then
      some ((-1 : Int32), σ)
    else
      if a2 ≤ (2 : Int32) then
        z_ck (z_ix a1 999) (
        some ((((σ 18 a1.toNatClampNeg) >>> (((8 : Int32) * a2) &&& 31)) &&& (255 : Int32)), σ))
      else
        some ((-1 : Int32), σ)
noncomputable def Sf_kept (a1 : Int32) (a2 : Int32) (σ : gx_R) : Option (Int32 × gx_R) :=
  z_bd (Va_firstKept σ) (fun r1 σ2 =>
  if a1 < r1 then
    Sf_kept_19 (Sf_kept_20) a1 a2 σ2
  else
    if (σ2 9 6) ≤ a1 then
      Sf_kept_19 (Sf_kept_20) a1 a2 σ2
    else
      if (nI 999) ≤ a1 then
        Sf_kept_19 (Sf_kept_20) a1 a2 σ2
      else
        Sf_kept_20 a1 a2 (1 : Int32) σ2)
noncomputable def Sf_foretoldDone_32 (a2 : Int32) (σ : gx_R) : Option (Int32 × gx_R) :=
  z_ck (z_ix a2 6) (
  some ((σ 62 a2.toNatClampNeg), σ))
noncomputable def Sf_foretoldDone_22_B (K22 : Int32 → Int32 → Int32 → gx_R → Option (Int32 × gx_R)) (a1 : Int32) (a2 : Int32) (a3 : Int32) (σ : gx_R) : Option (Int32 × gx_R) :=
  if a1 ≤ a3 then
    Sf_foretoldDone_32 a2 σ
  else
    z_bd (Cl_pass 56 σ) (fun _ σ12 =>
    K22 a1 a2 (a3 + 1) σ12)
noncomputable def Sf_foretoldDone_22 : Nat → Int32 → Int32 → Int32 → gx_R → Option (Int32 × gx_R)
  | 0, _, _, _, _ => none
  | n + 1, a1, a2, a3, σ => Sf_foretoldDone_22_B (Sf_foretoldDone_22 n) a1 a2 a3 σ
noncomputable def Sf_foretoldDone (a1 : Int32) (a2 : Int32) (σ : gx_R) : Option (Int32 × gx_R) :=
  if a1 < (1 : Int32) then
    some ((-1 : Int32), σ)
  else
    if (60 : Int32) < a1 then
      some ((-1 : Int32), σ)
    else
      z_bd (Fo_isWork a2 σ) (fun r3 σ4 =>
      if r3 = 0 then
        some ((-1 : Int32), σ4)
      else
        z_bd (Ni_copy 56 9 σ4) (fun _ σ8 =>
        Sf_foretoldDone_22 z_FU a1 a2 (0 : Int32) σ8))
noncomputable def Sf_foretoldStop_21_B (K21 : Int32 → Int32 → Int32 → gx_R → Option (Int32 × gx_R)) (a1 : Int32) (a2 : Int32) (a3 : Int32) (σ : gx_R) : Option (Int32 × gx_R) :=
  if a1 < a3 then
    some ((-1 : Int32), σ)
  else
    z_bd (Cl_pass 56 σ) (fun _ σ12 =>
    if (((σ12 53 5) >>> (a2 &&& 31)) &&& (1 : Int32)) = (1 : Int32) then
      some (a3, σ12)
    else
      K21 a1 a2 (a3 + 1) σ12)
noncomputable def Sf_foretoldStop_21 : Nat → Int32 → Int32 → Int32 → gx_R → Option (Int32 × gx_R)
  | 0, _, _, _, _ => none
  | n + 1, a1, a2, a3, σ => Sf_foretoldStop_21_B (Sf_foretoldStop_21 n) a1 a2 a3 σ
noncomputable def Sf_foretoldStop (a1 : Int32) (a2 : Int32) (σ : gx_R) : Option (Int32 × gx_R) :=
  if a1 < (1 : Int32) then
    some ((-1 : Int32), σ)
  else
    if (60 : Int32) < a1 then
      some ((-1 : Int32), σ)
    else
      z_bd (Sf_isDoing a2 (1 : Int32) σ) (fun r3 σ4 =>
      if r3 = 0 then
        some ((-1 : Int32), σ4)
      else
        z_bd (Ni_copy 56 9 σ4) (fun _ σ8 =>
        Sf_foretoldStop_21 z_FU a1 a2 (1 : Int32) σ8))
noncomputable def Sf_canPair (a1 : Int32) (a2 : Int32) (a3 : Int32) (σ : gx_R) : Option (Int32 × gx_R) :=
  z_bd (Fo_isGroup a1 (1 : Int32) (4 : Int32) σ) (fun r1 σ2 =>
  if r1 = 0 then
    some ((0 : Int32), σ2)
  else
    z_bd (Fo_isGroup a3 (1 : Int32) (6 : Int32) σ2) (fun r5 σ6 =>
    if r5 = 0 then
      some ((0 : Int32), σ6)
    else
      if (a1 &&& a3) = 0 then
        z_bd (Fo_isWork a2 σ6) (fun r10 σ11 =>
        if r10 = 0 then
          some ((0 : Int32), σ11)
        else
          some ((1 : Int32), σ11))
      else
        some ((0 : Int32), σ6)))
noncomputable def Sf_match_31 (a1 : Int32) (a2 : Int32) (a3 : Int32) (a4 : Int32) (a5 : Int32) (a6 : Int32) (σ : gx_R) : Option (Int32 × gx_R) :=
  z_bd (Pa_prepare a1 a2 a3 a4 σ) (fun _ σ11 =>
  z_bd (Pa_solve σ11) (fun r13 σ14 =>
  if r13 = 0 then
    some ((-1 : Int32), σ14)
  else
    if a6 = 0 then
      some ((σ14 63 15), σ14)
    else
      z_bd (Pa_whomFor a5 σ14) (fun r18 σ19 =>
      some (r18, σ19))))
noncomputable def Sf_match_22 (K23 : Int32 → Int32 → Int32 → Int32 → Int32 → Int32 → gx_R → Option (Int32 × gx_R)) (a1 : Int32) (a2 : Int32) (a3 : Int32) (a4 : Int32) (a5 : Int32) (σ : gx_R) : Option (Int32 × gx_R) :=
  K23 a1 a2 a3 a4 a5 (0 : Int32) σ
noncomputable def Sf_match_23 (a1 : Int32) (a2 : Int32) (a3 : Int32) (a4 : Int32) (a5 : Int32) (s0 : Int32) (σ : gx_R) : Option (Int32 × gx_R) :=
  if a5 = (-1 : Int32) then
    Sf_match_31 a1 a2 a3 a4 a5 s0 σ
  else
    if s0 = 0 then
      some ((-1 : Int32), σ)
    else
      Sf_match_31 a1 a2 a3 a4 a5 s0 σ
noncomputable def Sf_match (a1 : Int32) (a2 : Int32) (a3 : Int32) (a4 : Int32) (a5 : Int32) (σ : gx_R) : Option (Int32 × gx_R) :=
  z_bd (Sf_canPair a1 a2 a3 σ) (fun r1 σ2 =>
  if r1 = 0 then
    some ((-1 : Int32), σ2)
  else
    if a5 < 0 then
      Sf_match_22 (Sf_match_23) a1 a2 a3 a4 a5 σ2
    else
      if (8 : Int32) ≤ a5 then
        Sf_match_22 (Sf_match_23) a1 a2 a3 a4 a5 σ2
      else
        if ((a3 >>> (a5 &&& 31)) &&& (1 : Int32)) = (1 : Int32) then
          Sf_match_23 a1 a2 a3 a4 a5 (1 : Int32) σ2
        else
          Sf_match_22 (Sf_match_23) a1 a2 a3 a4 a5 σ2)
noncomputable def Sf_whoCannot (a1 : Int32) (a2 : Int32) (a3 : Int32) (σ : gx_R) : Option (Int32 × gx_R) :=
  z_bd (Sf_canPair a1 a2 a3 σ) (fun r1 σ2 =>
  if r1 = 0 then
    some ((-1 : Int32), σ2)
  else
    z_bd (Pa_prepare a1 a2 a3 (0 : Int32) σ2) (fun _ σ6 =>
    z_bd (Pa_lowestShort σ6) (fun r8 σ9 =>
    some (r8, σ9))))
noncomputable def Sf_behind_17 (a1 : Int32) (a2 : Int32) (σ : gx_R) : Option (Int32 × gx_R) :=
  z_bd (Qu_tierBehind a1 a2 σ) (fun r10 σ11 =>
  some (r10, σ11))
noncomputable def Sf_behind (a1 : Int32) (a2 : Int32) (σ : gx_R) : Option (Int32 × gx_R) :=
  z_bd (Fo_isPerson a1 σ) (fun r1 σ2 =>
  if r1 = 0 then
    some ((-1 : Int32), σ2)
  else
    if a2 = (-1 : Int32) then
      Sf_behind_17 a1 a2 σ2
    else
      z_bd (Fo_isPerson a2 σ2) (fun r6 σ7 =>
      if r6 = 0 then
        some ((-1 : Int32), σ7)
      else
        Sf_behind_17 a1 a2 σ7))
noncomputable def Sf_valley_16_B (K16 : Int32 → Int32 → Int32 → gx_R → Option (Int32 × gx_R)) (a1 : Int32) (a2 : Int32) (a3 : Int32) (σ : gx_R) : Option (Int32 × gx_R) :=
  if (99 : Int32) < a3 then
    some ((-1 : Int32), σ)
  else
    z_ck (z_nzi ((10 : Int32) + a2)) (
    if (((a3 * a2) / ((10 : Int32) + a2)) * (24 : Int32)) < (a3 * a1) then
      K16 a1 a2 (a3 + 1) σ
    else
      some (a3, σ))
noncomputable def Sf_valley_16 : Nat → Int32 → Int32 → Int32 → gx_R → Option (Int32 × gx_R)
  | 0, _, _, _, _ => none
  | n + 1, a1, a2, a3, σ => Sf_valley_16_B (Sf_valley_16 n) a1 a2 a3 σ
noncomputable def Sf_valley (a1 : Int32) (a2 : Int32) (σ : gx_R) : Option (Int32 × gx_R) :=
  if a1 < (1 : Int32) then
    some ((-1 : Int32), σ)
  else
    if (23 : Int32) < a1 then
      some ((-1 : Int32), σ)
    else
      if a2 < (1 : Int32) then
        some ((-1 : Int32), σ)
      else
        if a2 ≤ (99 : Int32) then
          Sf_valley_16 z_FU a1 a2 (2 : Int32) σ
        else
          some ((-1 : Int32), σ)
noncomputable def Sf_rota_19 (K20 : Int32 → Int32 → Int32 → Int32 → Int32 → Int32 → gx_R → Option (Int32 × gx_R)) (a1 : Int32) (a2 : Int32) (a3 : Int32) (a4 : Int32) (a5 : Int32) (σ : gx_R) : Option (Int32 × gx_R) :=
  K20 a1 a2 a3 a4 a5 (0 : Int32) σ
noncomputable def Sf_rota_20 (a1 : Int32) (a2 : Int32) (a3 : Int32) (a4 : Int32) (a5 : Int32) (s0 : Int32) (σ : gx_R) : Option (Int32 × gx_R) :=
  if s0 = 0 then
    some ((-1 : Int32), σ)
  else
    z_bd (Fo_isGroup a2 (1 : Int32) (4 : Int32) σ) (fun r8 σ9 =>
    if r8 = 0 then
      some ((-1 : Int32), σ9)
    else
      if a5 < (-1 : Int32) then
        some ((-1 : Int32), σ9)
      else
        if a5 < a1 then
          z_bd (Ro_prepare a1 a2 a3 a4 σ9) (fun _ σ15 =>
          z_bd (Ro_solve σ15) (fun r17 σ18 =>
          if r17 = 0 then
            some ((-1 : Int32), σ18)
          else
            if a5 = (-1 : Int32) then
              some ((σ18 73 7), σ18)
            else
              z_bd (Ro_whoIn a5 σ18) (fun r22 σ23 =>
              some (r22, σ23))))
        else
          some ((-1 : Int32), σ9))
noncomputable def Sf_rota (a1 : Int32) (a2 : Int32) (a3 : Int32) (a4 : Int32) (a5 : Int32) (σ : gx_R) : Option (Int32 × gx_R) :=
  if a1 < (1 : Int32) then
    Sf_rota_19 (Sf_rota_20) a1 a2 a3 a4 a5 σ
  else
    if (8 : Int32) < a1 then
      Sf_rota_19 (Sf_rota_20) a1 a2 a3 a4 a5 σ
    else
      if a3 < (1 : Int32) then
        Sf_rota_19 (Sf_rota_20) a1 a2 a3 a4 a5 σ
      else
        if (8 : Int32) < a3 then
          Sf_rota_19 (Sf_rota_20) a1 a2 a3 a4 a5 σ
        else
          if a4 < 0 then
            Sf_rota_19 (Sf_rota_20) a1 a2 a3 a4 a5 σ
          else
            if (8 : Int32) < a4 then
              Sf_rota_19 (Sf_rota_20) a1 a2 a3 a4 a5 σ
            else
              Sf_rota_20 a1 a2 a3 a4 a5 (1 : Int32) σ
noncomputable def Sf_chain (a1 : Int32) (σ : gx_R) : Option (Int32 × gx_R) :=
  z_bd (Sf_isDoing a1 (2 : Int32) σ) (fun r1 σ2 =>
  if r1 = 0 then
    some ((-1 : Int32), σ2)
  else
    z_bd (Cl_wokenBy a1 σ2) (fun r5 σ6 =>
    some (r5, σ6)))
noncomputable def Sf_guard (a1 : Int32) (a2 : Int32) (σ : gx_R) : Option (Int32 × gx_R) :=
  z_bd (Sf_isDoing a1 (2 : Int32) σ) (fun r1 σ2 =>
  if r1 = 0 then
    some ((-1 : Int32), σ2)
  else
    z_bd (Fo_isGroup a2 (1 : Int32) (8 : Int32) σ2) (fun r5 σ6 =>
    if r5 = 0 then
      some ((-1 : Int32), σ6)
    else
      if ((a2 >>> (a1 &&& 31)) &&& (1 : Int32)) = (1 : Int32) then
        some ((-1 : Int32), σ6)
      else
        z_bd (Qu_leastGuard a1 a2 σ6) (fun r10 σ11 =>
        some (r10, σ11))))
noncomputable def Sf_power_4_B (K4 : Int64 → Int32 → Int64 → Int32 → gx_R → Option (Int64 × gx_R)) (l0 : Int64) (a2 : Int32) (l3 : Int64) (a5 : Int32) (σ : gx_R) : Option (Int64 × gx_R) :=
  if a2 ≤ a5 then
    some (l3, σ)
  else
    K4 l0 a2 (l3 * l0) (a5 + 1) σ
noncomputable def Sf_power_4 : Nat → Int64 → Int32 → Int64 → Int32 → gx_R → Option (Int64 × gx_R)
  | 0, _, _, _, _, _ => none
  | n + 1, l0, a2, l3, a5, σ => Sf_power_4_B (Sf_power_4 n) l0 a2 l3 a5 σ
noncomputable def Sf_power (l0 : Int64) (a2 : Int32) (σ : gx_R) : Option (Int64 × gx_R) :=
  Sf_power_4 z_FU l0 a2 (1 : Int64) (0 : Int32) σ
noncomputable def Sf_atLeast_26 (K6 : Int32 → Int32 → Int64 → Int64 → Int64 → Int64 → Int32 → gx_R → Option (Int64 × gx_R)) (a0 : Int32) (a1 : Int32) (l2 : Int64) (l4 : Int64) (l6 : Int64) (l8 : Int64) (a10 : Int32) (σ : gx_R) : Option (Int64 × gx_R) :=
  z_ck (z_nzl ((a10 + (1 : Int32)).toInt64)) (
  K6 a0 a1 l2 l4 l6 ((l8 * (a0 - a10).toInt64) / (a10 + (1 : Int32)).toInt64) (a10 + 1) σ)
noncomputable def Sf_atLeast_6_B (K6 : Int32 → Int32 → Int64 → Int64 → Int64 → Int64 → Int32 → gx_R → Option (Int64 × gx_R)) (a0 : Int32) (a1 : Int32) (l2 : Int64) (l4 : Int64) (l6 : Int64) (l8 : Int64) (a10 : Int32) (σ : gx_R) : Option (Int64 × gx_R) :=
  if a0 < a10 then
    some (l6, σ)
  else
    if a10 < a1 then
      Sf_atLeast_26 K6 a0 a1 l2 l4 l6 l8 a10 σ
    else
      z_bd (Sf_power l2 a10 σ) (fun r3 σ4 =>
      z_bd (Sf_power l4 (a0 - a10) σ4) (fun r6 σ7 =>
      Sf_atLeast_26 K6 a0 a1 l2 l4 (l6 + ((l8 * r3) * r6)) l8 a10 σ7))
noncomputable def Sf_atLeast_6 : Nat → Int32 → Int32 → Int64 → Int64 → Int64 → Int64 → Int32 → gx_R → Option (Int64 × gx_R)
  | 0, _, _, _, _, _, _, _, _ => none
  | n + 1, a0, a1, l2, l4, l6, l8, a10, σ => Sf_atLeast_6_B (Sf_atLeast_6 n) a0 a1 l2 l4 l6 l8 a10 σ
noncomputable def Sf_atLeast (a0 : Int32) (a1 : Int32) (l2 : Int64) (l4 : Int64) (σ : gx_R) : Option (Int64 × gx_R) :=
  Sf_atLeast_6 z_FU a0 a1 l2 l4 (0 : Int64) (1 : Int64) (0 : Int32) σ
noncomputable def Sf_commonDivisor_6_B (K6 : Int64 → Int64 → Int32 → gx_R → Option (Int64 × gx_R)) (l4 : Int64) (l6 : Int64) (a8 : Int32) (σ : gx_R) : Option (Int64 × gx_R) :=
  if (200 : Int32) ≤ a8 then
    some (l4, σ)
  else
    if (lg_cmp l6 (0 : Int64)) = 0 then
      some (l4, σ)
    else
      z_ck (z_nzl l6) (
      K6 l6 (l4 - l4 / l6 * l6) (a8 + 1) σ)
noncomputable def Sf_commonDivisor_6 : Nat → Int64 → Int64 → Int32 → gx_R → Option (Int64 × gx_R)
  | 0, _, _, _, _ => none
  | n + 1, l4, l6, a8, σ => Sf_commonDivisor_6_B (Sf_commonDivisor_6 n) l4 l6 a8 σ
noncomputable def Sf_commonDivisor (l0 : Int64) (l2 : Int64) (σ : gx_R) : Option (Int64 × gx_R) :=
  Sf_commonDivisor_6 z_FU l0 l2 (0 : Int32) σ
noncomputable def Sf_enough_18 (K19 : Int32 → Int32 → Int32 → Int32 → Int32 → Int32 → gx_R → Option (Int64 × gx_R)) (a1 : Int32) (a2 : Int32) (a3 : Int32) (a4 : Int32) (a5 : Int32) (σ : gx_R) : Option (Int64 × gx_R) :=
  K19 a1 a2 a3 a4 a5 (0 : Int32) σ
noncomputable def Sf_enough_19 (a1 : Int32) (a2 : Int32) (a3 : Int32) (a4 : Int32) (a5 : Int32) (s0 : Int32) (σ : gx_R) : Option (Int64 × gx_R) :=
  if s0 = 0 then
    some ((-1 : Int64), σ)
  else
    if a3 < 0 then
      some ((-1 : Int64), σ)
    else
      if (15 : Int32) < a3 then
        some ((-1 : Int64), σ)
      else
        if (a1 * a3) ≤ (15 : Int32) then
          z_bd (Sf_power (((10 : Int32) - a2).toInt64) a3 σ) (fun r11 σ12 =>
          z_bd (Sf_power (10 : Int64) a3 σ12) (fun r14 σ15 =>
          z_bd (Sf_atLeast a1 a4 r11 (r14 - r11) σ15) (fun r17 σ18 =>
          z_bd (Sf_power r14 a1 σ18) (fun r20 σ21 =>
          z_bd (Sf_commonDivisor r20 r17 σ21) (fun r23 σ24 =>
          if 0 ≤ (lg_cmp r23 (1 : Int64)) then
            if a5 = 0 then
              z_ck (z_nzl r23) (
              some ((r17 / r23), σ24))
            else
              z_ck (z_nzl r23) (
              some ((r20 / r23), σ24))
          else
            some ((-1 : Int64), σ24))))))
        else
          some ((-1 : Int64), σ)
noncomputable def Sf_enough (a1 : Int32) (a2 : Int32) (a3 : Int32) (a4 : Int32) (a5 : Int32) (σ : gx_R) : Option (Int64 × gx_R) :=
  if a1 < (1 : Int32) then
    Sf_enough_18 (Sf_enough_19) a1 a2 a3 a4 a5 σ
  else
    if (5 : Int32) < a1 then
      Sf_enough_18 (Sf_enough_19) a1 a2 a3 a4 a5 σ
    else
      if a2 < 0 then
        Sf_enough_18 (Sf_enough_19) a1 a2 a3 a4 a5 σ
      else
        if (10 : Int32) < a2 then
          Sf_enough_18 (Sf_enough_19) a1 a2 a3 a4 a5 σ
        else
          if a4 < 0 then
            Sf_enough_18 (Sf_enough_19) a1 a2 a3 a4 a5 σ
          else
            if (5 : Int32) < a4 then
              Sf_enough_18 (Sf_enough_19) a1 a2 a3 a4 a5 σ
            else
              Sf_enough_19 a1 a2 a3 a4 a5 (1 : Int32) σ
noncomputable def Sf_ring_6 (σ : gx_R) : Option (Int32 × gx_R) :=
  some ((-1 : Int32), σ)
noncomputable def Sf_ring (a1 : Int32) (σ : gx_R) : Option (Int32 × gx_R) :=
  if a1 < (-2 : Int32) then
    Sf_ring_6 σ
  else
    if a1 < (8 : Int32) then
      z_bd (Qu_ofRing a1 σ) (fun r3 σ4 =>
      some (r3, σ4))
    else
      Sf_ring_6 σ
noncomputable def Sf_without_5 (σ : gx_R) : Option (Int32 × gx_R) :=
  some ((-1 : Int32), σ)
noncomputable def Sf_without (a1 : Int32) (σ : gx_R) : Option (Int32 × gx_R) :=
  if a1 < 0 then
    Sf_without_5 σ
  else
    if a1 ≤ (255 : Int32) then
      z_bd (Qu_stoppedWithout a1 σ) (fun r3 σ4 =>
      some (r3, σ4))
    else
      Sf_without_5 σ
noncomputable def Sf_strike (a1 : Int32) (σ : gx_R) : Option (Int32 × gx_R) :=
  z_bd (Sf_isDoing a1 (1 : Int32) σ) (fun r1 σ2 =>
  if r1 = 0 then
    some ((-1 : Int32), σ2)
  else
    z_bd (Qu_leastStrike a1 σ2) (fun r5 σ6 =>
    some (r5, σ6)))
noncomputable def Sf_fits (a1 : Int32) (σ : gx_R) : Option (Int32 × gx_R) :=
  z_bd (Fo_isPerson a1 σ) (fun r1 σ2 =>
  if r1 = 0 then
    some ((-1 : Int32), σ2)
  else
    z_bd (Qu_fitting a1 σ2) (fun r5 σ6 =>
    some (r5, σ6)))
noncomputable def Sf_forNobody (σ : gx_R) : Option (Int32 × gx_R) :=
  z_bd (Qu_asleepForNobody σ) (fun r1 σ2 =>
  some (r1, σ2))
noncomputable def Sf_image (σ : gx_R) : Option (Int32 × gx_R) :=
  z_bd (Va_copy 19 1 σ) (fun _ σ2 =>
  some ((σ2 9 6), σ2))
noncomputable def Sf_back (σ : gx_R) : Option (Int32 × gx_R) :=
  z_bd (Va_copy 1 19 σ) (fun _ σ2 =>
  some ((σ2 9 6), σ2))
noncomputable def Sf_about (a1 : Int32) (σ : gx_R) : Option (Int32 × gx_R) :=
  if a1 = (0 : Int32) then
    some ((σ 2 0), σ)
  else
  if a1 = (1 : Int32) then
    some ((σ 2 1), σ)
  else
  if a1 = (2 : Int32) then
    some ((σ 9 6), σ)
  else
  if a1 = (3 : Int32) then
    some ((σ 9 7), σ)
  else
  if a1 = (4 : Int32) then
    some ((σ 1 4), σ)
  else
  if a1 = (5 : Int32) then
    some ((σ 1 5), σ)
  else
  if a1 = (6 : Int32) then
    some ((σ 16 2), σ)
  else
  if a1 = (7 : Int32) then
    z_bd (Ni_those 9 (1 : Int32) σ) (fun r9 σ10 =>
    some (r9, σ10))
  else
  if a1 = (8 : Int32) then
    z_bd (Ni_those 9 (2 : Int32) σ) (fun r13 σ14 =>
    some (r13, σ14))
  else
  if a1 = (9 : Int32) then
    some ((σ 0 4), σ)
  else
    some ((-2 : Int32), σ)
noncomputable def Md_in (a0 : Int32) (a1 : Int32) (a2 : Int32) (σ : gx_R) : Option (Int32 × gx_R) :=
  if a0 < a1 then
    some ((0 : Int32), σ)
  else
    if a2 < a0 then
      some ((0 : Int32), σ)
    else
      some ((1 : Int32), σ)
noncomputable def Md_has (a0 : Int32) (a1 : Int32) (σ : gx_R) : Option (Int32 × gx_R) :=
  if ((a0 >>> (a1 &&& 31)) &&& (1 : Int32)) = (1 : Int32) then
    some ((1 : Int32), σ)
  else
    some ((0 : Int32), σ)
noncomputable def Md_many_4_B (K4 : Int32 → Int32 → gx_R → Option (Int32 × gx_R)) (a1 : Int32) (a2 : Int32) (σ : gx_R) : Option (Int32 × gx_R) :=
  if a2 = 0 then
    some (a1, σ)
  else
    K4 (a1 + (a2 &&& (1 : Int32))) (a2 >>> ((1 : Int32) &&& 31)) σ
noncomputable def Md_many_4 : Nat → Int32 → Int32 → gx_R → Option (Int32 × gx_R)
  | 0, _, _, _ => none
  | n + 1, a1, a2, σ => Md_many_4_B (Md_many_4 n) a1 a2 σ
noncomputable def Md_many (a0 : Int32) (σ : gx_R) : Option (Int32 × gx_R) :=
  Md_many_4 z_FU (0 : Int32) a0 σ
noncomputable def Md_copies_24 (K2 : Int32 → Int32 → gx_R → Option (Unit × gx_R)) (a1 : Int32) (a2 : Int32) (σ : gx_R) : Option (Unit × gx_R) :=
  K2 a1 (a2 + 1) σ
noncomputable def Md_copies_2_B (K2 : Int32 → Int32 → gx_R → Option (Unit × gx_R)) (a1 : Int32) (a2 : Int32) (σ : gx_R) : Option (Unit × gx_R) :=
  if (8880 : Int32) ≤ a2 then
    some ((), σ)
  else
    if a1 = 0 then
      z_ck (z_ix a2 8880) (
      z_ck (z_ix a2 8880) (
      Md_copies_24 K2 a1 a2 (gx_up σ 110 a2.toNatClampNeg (σ 111 a2.toNatClampNeg))))
    else
      z_ck (z_ix a2 8880) (
      z_ck (z_ix a2 8880) (
      Md_copies_24 K2 a1 a2 (gx_up σ 111 a2.toNatClampNeg (σ 110 a2.toNatClampNeg))))
noncomputable def Md_copies_2 : Nat → Int32 → Int32 → gx_R → Option (Unit × gx_R)
  | 0, _, _, _ => none
  | n + 1, a1, a2, σ => Md_copies_2_B (Md_copies_2 n) a1 a2 σ
noncomputable def Md_copies (a1 : Int32) (σ : gx_R) : Option (Unit × gx_R) :=
  Md_copies_2 z_FU a1 (0 : Int32) σ
noncomputable def Md_isPerson (a1 : Int32) (σ : gx_R) : Option (Int32 × gx_R) :=
  z_bd (Md_in a1 (0 : Int32) ((σ 110 ((0 : Int32).toNatClampNeg)) - (1 : Int32)) σ) (fun r1 σ2 =>
  z_ck (z_bo r1) (
  some (r1, σ2)))
noncomputable def Md_isWork (a1 : Int32) (σ : gx_R) : Option (Int32 × gx_R) :=
  z_bd (Md_in a1 (0 : Int32) ((σ 110 ((1 : Int32).toNatClampNeg)) - (1 : Int32)) σ) (fun r1 σ2 =>
  z_ck (z_bo r1) (
  some (r1, σ2)))
noncomputable def Md_isSet (a1 : Int32) (σ : gx_R) : Option (Int32 × gx_R) :=
  z_bd (Md_in a1 (1 : Int32) (((1 : Int32) <<< ((σ 110 ((0 : Int32).toNatClampNeg)) &&& 31)) - (1 : Int32)) σ) (fun r1 σ2 =>
  z_ck (z_bo r1) (
  some (r1, σ2)))
noncomputable def Md_person_66 (a3 : Int32) (σ : gx_R) : Option (Int32 × gx_R) :=
  some (a3, (gx_up σ 110 (0 : Int32).toNatClampNeg ((σ 110 ((0 : Int32).toNatClampNeg)) + (1 : Int32))))
noncomputable def Md_person_43_B (K43 : Int32 → Int32 → gx_R → Option (Int32 × gx_R)) (a3 : Int32) (a4 : Int32) (σ : gx_R) : Option (Int32 × gx_R) :=
  if (σ 110 ((4 : Int32).toNatClampNeg)) ≤ a4 then
    Md_person_66 a3 σ
  else
    z_ck (z_ix (((((360 : Int32) + ((284 : Int32) * a4)) + (68 : Int32)) - (60 : Int32)) + a3) 8880) (
    K43 a3 (a4 + 1) (gx_up σ 110 (((((360 : Int32) + ((284 : Int32) * a4)) + (68 : Int32)) - (60 : Int32)) + a3).toNatClampNeg (-1 : Int32)))
noncomputable def Md_person_43 : Nat → Int32 → Int32 → gx_R → Option (Int32 × gx_R)
  | 0, _, _, _ => none
  | n + 1, a3, a4, σ => Md_person_43_B (Md_person_43 n) a3 a4 σ
noncomputable def Md_person (a1 : Int32) (a2 : Int32) (σ : gx_R) : Option (Int32 × gx_R) :=
  z_bd (Md_in a1 (0 : Int32) (9 : Int32) σ) (fun r1 σ2 =>
  if r1 = 0 then
    some ((-1 : Int32), σ2)
  else
    z_bd (Md_in a2 (0 : Int32) (9 : Int32) σ2) (fun r5 σ6 =>
    if r5 = 0 then
      some ((-1 : Int32), σ6)
    else
      if (σ 110 ((0 : Int32).toNatClampNeg)) = (8 : Int32) then
        some ((-1 : Int32), σ6)
      else
        z_ck (z_ix ((10 : Int32) + (σ 110 ((0 : Int32).toNatClampNeg))) 8880) (
        z_ck (z_ix ((18 : Int32) + (σ 110 ((0 : Int32).toNatClampNeg))) 8880) (
        z_ck (z_ix ((68 : Int32) + (σ 110 ((0 : Int32).toNatClampNeg))) 8880) (
        Md_person_43 z_FU (σ 110 ((0 : Int32).toNatClampNeg)) (0 : Int32) (gx_up (gx_up (gx_up σ6 110 ((10 : Int32) + (σ 110 ((0 : Int32).toNatClampNeg))).toNatClampNeg a1) 110 ((18 : Int32) + (σ 110 ((0 : Int32).toNatClampNeg))).toNatClampNeg a2) 110 ((68 : Int32) + (σ 110 ((0 : Int32).toNatClampNeg))).toNatClampNeg (-1 : Int32)))))))
noncomputable def Md_work (a1 : Int32) (a2 : Int32) (σ : gx_R) : Option (Int32 × gx_R) :=
  z_bd (Md_in a1 (1 : Int32) (99 : Int32) σ) (fun r1 σ2 =>
  if r1 = 0 then
    some ((-1 : Int32), σ2)
  else
    z_bd (Md_in a2 (0 : Int32) (9 : Int32) σ2) (fun r5 σ6 =>
    if r5 = 0 then
      some ((-1 : Int32), σ6)
    else
      if (σ 110 ((1 : Int32).toNatClampNeg)) = (6 : Int32) then
        some ((-1 : Int32), σ6)
      else
        z_ck (z_ix ((42 : Int32) + (σ 110 ((1 : Int32).toNatClampNeg))) 8880) (
        z_ck (z_ix ((48 : Int32) + (σ 110 ((1 : Int32).toNatClampNeg))) 8880) (
        some ((σ 110 ((1 : Int32).toNatClampNeg)), (gx_up (gx_up (gx_up σ6 110 ((42 : Int32) + (σ 110 ((1 : Int32).toNatClampNeg))).toNatClampNeg a1) 110 ((48 : Int32) + (σ 110 ((1 : Int32).toNatClampNeg))).toNatClampNeg a2) 110 (1 : Int32).toNatClampNeg (((gx_up (gx_up σ6 110 ((42 : Int32) + (σ 110 ((1 : Int32).toNatClampNeg))).toNatClampNeg a1) 110 ((48 : Int32) + (σ 110 ((1 : Int32).toNatClampNeg))).toNatClampNeg a2) 110 ((1 : Int32).toNatClampNeg)) + (1 : Int32))))))))
