noncomputable def Md_valley_14_B (K14 : Int32 → Int32 → Int32 → gx_R → Option (Int32 × gx_R)) (a1 : Int32) (a2 : Int32) (a3 : Int32) (σ : gx_R) : Option (Int32 × gx_R) :=
  if (100 : Int32) ≤ a3 then
    some ((-1 : Int32), σ)
  else
    z_ck (z_nzi ((10 : Int32) + a2)) (
    if ((24 : Int32) * ((a3 * a2) / ((10 : Int32) + a2))) < (a3 * a1) then
      K14 a1 a2 (a3 + 1) σ
    else
      some (a3, σ))
noncomputable def Md_valley_14 : Nat → Int32 → Int32 → Int32 → gx_R → Option (Int32 × gx_R)
  | 0, _, _, _, _ => none
  | n + 1, a1, a2, a3, σ => Md_valley_14_B (Md_valley_14 n) a1 a2 a3 σ
noncomputable def Md_valley (a1 : Int32) (a2 : Int32) (σ : gx_R) : Option (Int32 × gx_R) :=
  z_bd (Md_in a1 (1 : Int32) (23 : Int32) σ) (fun r1 σ2 =>
  if r1 = 0 then
    some ((-1 : Int32), σ2)
  else
    z_bd (Md_in a2 (1 : Int32) (99 : Int32) σ2) (fun r5 σ6 =>
    if r5 = 0 then
      some ((-1 : Int32), σ6)
    else
      Md_valley_14 z_FU a1 a2 (2 : Int32) σ6))
noncomputable def Md_onEnd_2_B (K2 : Int32 → Int32 → gx_R → Option (Int32 × gx_R)) (a1 : Int32) (a2 : Int32) (σ : gx_R) : Option (Int32 × gx_R) :=
  if (a1 - a2) < 0 then
    some (a2, σ)
  else
    z_ck (z_ix (a1 - a2) 8) (
    z_ck (z_ix a1 8) (
    if (σ 150 ((a1 - a2).toNatClampNeg)) = (σ 150 a1.toNatClampNeg) then
      K2 a1 (a2 + 1) σ
    else
      some (a2, σ)))
noncomputable def Md_onEnd_2 : Nat → Int32 → Int32 → gx_R → Option (Int32 × gx_R)
  | 0, _, _, _ => none
  | n + 1, a1, a2, σ => Md_onEnd_2_B (Md_onEnd_2 n) a1 a2 σ
noncomputable def Md_onEnd (a1 : Int32) (σ : gx_R) : Option (Int32 × gx_R) :=
  Md_onEnd_2 z_FU a1 (1 : Int32) σ
noncomputable def Md_mayShift_29 (a1 : Int32) (a3 : Int32) (a5 : Int32) (σ : gx_R) : Option (Int32 × gx_R) :=
  if ((a1 - a5) - (1 : Int32)) < a3 then
    some ((0 : Int32), σ)
  else
    some ((1 : Int32), σ)
noncomputable def Md_mayShift_18_B (K18 : Int32 → Int32 → Int32 → gx_R → Option (Int32 × gx_R)) (a1 : Int32) (a3 : Int32) (a5 : Int32) (σ : gx_R) : Option (Int32 × gx_R) :=
  if a5 < 0 then
    some ((1 : Int32), σ)
  else
    z_ck (z_ix a5 8) (
    z_ck (z_ix a1 8) (
    if (σ 150 a5.toNatClampNeg) = (σ 150 a1.toNatClampNeg) then
      Md_mayShift_29 a1 a3 a5 σ
    else
      K18 a1 a3 (a5 + (-1)) σ))
noncomputable def Md_mayShift_18 : Nat → Int32 → Int32 → Int32 → gx_R → Option (Int32 × gx_R)
  | 0, _, _, _, _ => none
  | n + 1, a1, a3, a5, σ => Md_mayShift_18_B (Md_mayShift_18 n) a1 a3 a5 σ
noncomputable def Md_mayShift (a1 : Int32) (a2 : Int32) (a3 : Int32) (σ : gx_R) : Option (Int32 × gx_R) :=
  z_bd (Md_onEnd a1 σ) (fun r1 σ2 =>
  if r1 ≤ a2 then
    if r1 ≤ (1 : Int32) then
      Md_mayShift_18 z_FU a1 a3 (a1 - (2 : Int32)) σ2
    else
      some ((1 : Int32), σ2)
  else
    some ((0 : Int32), σ2))
noncomputable def Md_changesTo_22 (K4 : Int32 → Int32 → Int32 → gx_R → Option (Int32 × gx_R)) (a1 : Int32) (a3 : Int32) (s0 : Int32) (s1 : Int32) (σ : gx_R) : Option (Int32 × gx_R) :=
  K4 a1 (s0 + s1) (a3 + 1) σ
noncomputable def Md_changesTo_4_B (K4 : Int32 → Int32 → Int32 → gx_R → Option (Int32 × gx_R)) (a1 : Int32) (a2 : Int32) (a3 : Int32) (σ : gx_R) : Option (Int32 × gx_R) :=
  if a1 < a3 then
    some (a2, σ)
  else
    z_ck (z_ix a3 8) (
    z_ck (z_ix (a3 - (1 : Int32)) 8) (
    if (σ 150 a3.toNatClampNeg) = (σ 150 ((a3 - (1 : Int32)).toNatClampNeg)) then
      Md_changesTo_22 K4 a1 a3 a2 (0 : Int32) σ
    else
      Md_changesTo_22 K4 a1 a3 a2 (1 : Int32) σ))
noncomputable def Md_changesTo_4 : Nat → Int32 → Int32 → Int32 → gx_R → Option (Int32 × gx_R)
  | 0, _, _, _, _ => none
  | n + 1, a1, a2, a3, σ => Md_changesTo_4_B (Md_changesTo_4 n) a1 a2 a3 σ
noncomputable def Md_changesTo (a1 : Int32) (σ : gx_R) : Option (Int32 × gx_R) :=
  Md_changesTo_4 z_FU a1 (0 : Int32) (1 : Int32) σ
noncomputable def Md_staysWithin_23 (a1 : Int32) (a4 : Int32) (s0 : Int32) (σ : gx_R) : Option (Int32 × gx_R) :=
  z_bd (Md_changesTo a1 σ) (fun r6 σ7 =>
  if a4 < (r6 + s0) then
    some ((0 : Int32), σ7)
  else
    some ((1 : Int32), σ7))
noncomputable def Md_staysWithin (a1 : Int32) (a2 : Int32) (a3 : Int32) (a4 : Int32) (σ : gx_R) : Option (Int32 × gx_R) :=
  z_bd (Md_onEnd a1 σ) (fun r1 σ2 =>
  if 0 < (((a2 - (1 : Int32)) - a1) - (a3 - r1)) then
    z_ck (z_nzi a3) (
    Md_staysWithin_23 a1 a4 ((((((a2 - (1 : Int32)) - a1) - (a3 - r1)) + a3) - (1 : Int32)) / a3) σ2)
  else
    Md_staysWithin_23 a1 a4 (0 : Int32) σ2)
noncomputable def Md_rotaWithin_7_B (K7 : Int32 → Int32 → Int32 → Int32 → Int32 → Int32 → gx_R → Option (Int32 × gx_R)) (a1 : Int32) (a2 : Int32) (a3 : Int32) (a4 : Int32) (a5 : Int32) (a6 : Int32) (σ : gx_R) : Option (Int32 × gx_R) :=
  if a6 < 0 then
    some ((0 : Int32), σ)
  else
    z_ck (z_ix a6 8) (
    z_ck (z_ix a6 8) (
    z_ck (z_ix a6 8) (
    if ((gx_up σ 150 a6.toNatClampNeg ((σ 150 a6.toNatClampNeg) + (1 : Int32))) 150 a6.toNatClampNeg) = a2 then
      K7 a1 a2 a3 a4 a5 (a6 + (-1)) (gx_up σ 150 a6.toNatClampNeg ((σ 150 a6.toNatClampNeg) + (1 : Int32)))
    else
      z_bd (Md_mayShift a6 a3 a4 (gx_up σ 150 a6.toNatClampNeg ((σ 150 a6.toNatClampNeg) + (1 : Int32)))) (fun r6 σ7 =>
      if r6 = 0 then
        K7 a1 a2 a3 a4 a5 a6 σ7
      else
        z_bd (Md_staysWithin a6 a1 a3 a5 σ7) (fun r10 σ11 =>
        if r10 = 0 then
          K7 a1 a2 a3 a4 a5 a6 σ11
        else
          if a6 = (a1 - (1 : Int32)) then
            some ((1 : Int32), σ11)
          else
            z_ck (z_ix (a6 + 1) 8) (
            K7 a1 a2 a3 a4 a5 (a6 + 1) (gx_up σ11 150 (a6 + 1).toNatClampNeg (-1 : Int32))))))))
noncomputable def Md_rotaWithin_7 : Nat → Int32 → Int32 → Int32 → Int32 → Int32 → Int32 → gx_R → Option (Int32 × gx_R)
  | 0, _, _, _, _, _, _, _ => none
  | n + 1, a1, a2, a3, a4, a5, a6, σ => Md_rotaWithin_7_B (Md_rotaWithin_7 n) a1 a2 a3 a4 a5 a6 σ
noncomputable def Md_rotaWithin (a1 : Int32) (a2 : Int32) (a3 : Int32) (a4 : Int32) (a5 : Int32) (σ : gx_R) : Option (Int32 × gx_R) :=
  Md_rotaWithin_7 z_FU a1 a2 a3 a4 a5 (0 : Int32) (gx_up σ 150 (0 : Int32).toNatClampNeg (-1 : Int32))
noncomputable def Md_rota_75 (a1 : Int32) (a5 : Int32) (σ : gx_R) : Option (Int32 × gx_R) :=
  if a5 = (-1 : Int32) then
    z_bd (Md_changesTo (a1 - (1 : Int32)) σ) (fun r38 σ39 =>
    some (r38, σ39))
  else
    z_ck (z_ix a5 8) (
    z_ck (z_ix (σ 150 a5.toNatClampNeg) 8) (
    some ((σ 149 ((σ 150 a5.toNatClampNeg).toNatClampNeg)), σ)))
noncomputable def Md_rota_64_B (K64 : Int32 → Int32 → Int32 → Int32 → Int32 → Int32 → gx_R → Option (Int32 × gx_R)) (a1 : Int32) (a3 : Int32) (a4 : Int32) (a5 : Int32) (a6 : Int32) (a7 : Int32) (σ : gx_R) : Option (Int32 × gx_R) :=
  if a1 ≤ a7 then
    some ((-1 : Int32), σ)
  else
    z_bd (Md_rotaWithin a1 a6 a3 a4 a7 σ) (fun r33 σ34 =>
    if r33 = 0 then
      K64 a1 a3 a4 a5 a6 (a7 + 1) σ34
    else
      Md_rota_75 a1 a5 σ34)
noncomputable def Md_rota_64 : Nat → Int32 → Int32 → Int32 → Int32 → Int32 → Int32 → gx_R → Option (Int32 × gx_R)
  | 0, _, _, _, _, _, _, _ => none
  | n + 1, a1, a3, a4, a5, a6, a7, σ => Md_rota_64_B (Md_rota_64 n) a1 a3 a4 a5 a6 a7 σ
noncomputable def Md_rota_52 (K36 : Int32 → Int32 → Int32 → Int32 → Int32 → Int32 → Int32 → gx_R → Option (Int32 × gx_R)) (a1 : Int32) (a2 : Int32) (a3 : Int32) (a4 : Int32) (a5 : Int32) (a6 : Int32) (a7 : Int32) (σ : gx_R) : Option (Int32 × gx_R) :=
  K36 a1 a2 a3 a4 a5 a6 (a7 + 1) σ
noncomputable def Md_rota_54 (a1 : Int32) (a3 : Int32) (a4 : Int32) (a5 : Int32) (a6 : Int32) (σ : gx_R) : Option (Int32 × gx_R) :=
  z_ck (z_nzi a3) (
  Md_rota_64 z_FU a1 a3 a4 a5 a6 ((((a1 + a3) - (1 : Int32)) / a3) - (1 : Int32)) σ)
noncomputable def Md_rota_36_B (K36 : Int32 → Int32 → Int32 → Int32 → Int32 → Int32 → Int32 → gx_R → Option (Int32 × gx_R)) (a1 : Int32) (a2 : Int32) (a3 : Int32) (a4 : Int32) (a5 : Int32) (a6 : Int32) (a7 : Int32) (σ : gx_R) : Option (Int32 × gx_R) :=
  if (σ 110 ((0 : Int32).toNatClampNeg)) ≤ a7 then
    Md_rota_54 a1 a3 a4 a5 a6 σ
  else
    z_bd (Md_has a2 a7 σ) (fun r26 σ27 =>
    if r26 = 0 then
      Md_rota_52 K36 a1 a2 a3 a4 a5 a6 a7 σ27
    else
      z_ck (z_ix a6 8) (
      Md_rota_52 K36 a1 a2 a3 a4 a5 (a6 + 1) a7 (gx_up σ27 149 a6.toNatClampNeg a7)))
noncomputable def Md_rota_36 : Nat → Int32 → Int32 → Int32 → Int32 → Int32 → Int32 → Int32 → gx_R → Option (Int32 × gx_R)
  | 0, _, _, _, _, _, _, _, _ => none
  | n + 1, a1, a2, a3, a4, a5, a6, a7, σ => Md_rota_36_B (Md_rota_36 n) a1 a2 a3 a4 a5 a6 a7 σ
noncomputable def Md_rota (a1 : Int32) (a2 : Int32) (a3 : Int32) (a4 : Int32) (a5 : Int32) (σ : gx_R) : Option (Int32 × gx_R) :=
  z_bd (Md_in a1 (1 : Int32) (8 : Int32) σ) (fun r1 σ2 =>
  if r1 = 0 then
    some ((-1 : Int32), σ2)
  else
    z_bd (Md_isSet a2 σ2) (fun r5 σ6 =>
    if r5 = 0 then
      some ((-1 : Int32), σ6)
    else
      z_bd (Md_many a2 σ6) (fun r9 σ10 =>
      if (4 : Int32) < r9 then
        some ((-1 : Int32), σ10)
      else
        z_bd (Md_in a3 (1 : Int32) (8 : Int32) σ10) (fun r13 σ14 =>
        if r13 = 0 then
          some ((-1 : Int32), σ14)
        else
          z_bd (Md_in a4 (0 : Int32) (8 : Int32) σ14) (fun r17 σ18 =>
          if r17 = 0 then
            some ((-1 : Int32), σ18)
          else
            z_bd (Md_in a5 (-1 : Int32) (a1 - (1 : Int32)) σ18) (fun r21 σ22 =>
            if r21 = 0 then
              some ((-1 : Int32), σ22)
            else
              Md_rota_36 z_FU a1 a2 a3 a4 a5 (0 : Int32) (0 : Int32) σ22))))))
noncomputable def Md_chain (a1 : Int32) (σ : gx_R) : Option (Int32 × gx_R) :=
  z_bd (Md_isAt a1 (2 : Int32) σ) (fun r1 σ2 =>
  if r1 = 0 then
    some ((-1 : Int32), σ2)
  else
    z_bd (Md_laysNow σ2) (fun _ σ6 =>
    z_bd (Md_wakesOn ((1 : Int32) <<< (a1 &&& 31)) (0 : Int32) σ6) (fun r8 σ9 =>
    some (r8, σ9))))
noncomputable def Md_guard_58 (K34 : Int32 → Int32 → Int32 → Int32 → Int32 → gx_R → Option (Int32 × gx_R)) (a1 : Int32) (a2 : Int32) (a3 : Int32) (a4 : Int32) (a5 : Int32) (σ : gx_R) : Option (Int32 × gx_R) :=
  K34 a1 a2 a3 a4 (a5 + 1) σ
noncomputable def Md_guard_60 (K29 : Int32 → Int32 → Int32 → Int32 → gx_R → Option (Int32 × gx_R)) (a1 : Int32) (a2 : Int32) (a3 : Int32) (a4 : Int32) (σ : gx_R) : Option (Int32 × gx_R) :=
  K29 a1 a2 a3 (a4 + 1) σ
noncomputable def Md_guard_34_B (K29 : Int32 → Int32 → Int32 → Int32 → gx_R → Option (Int32 × gx_R)) (K34 : Int32 → Int32 → Int32 → Int32 → Int32 → gx_R → Option (Int32 × gx_R)) (a1 : Int32) (a2 : Int32) (a3 : Int32) (a4 : Int32) (a5 : Int32) (σ : gx_R) : Option (Int32 × gx_R) :=
  if (256 : Int32) ≤ a5 then
    Md_guard_60 K29 a1 a2 a3 a4 σ
  else
    if (a5 &&& (a3 ^^^ (-1 : Int32))) = 0 then
      z_bd (Md_many a5 σ) (fun r22 σ23 =>
      if r22 = a4 then
        z_bd (Md_wakesOn ((1 : Int32) <<< (a1 &&& 31)) a5 σ23) (fun r26 σ27 =>
        if (r26 &&& a2) = 0 then
          some (a5, σ27)
        else
          Md_guard_58 K34 a1 a2 a3 a4 a5 σ27)
      else
        Md_guard_58 K34 a1 a2 a3 a4 a5 σ23)
    else
      Md_guard_58 K34 a1 a2 a3 a4 a5 σ
noncomputable def Md_guard_34 (K29 : Int32 → Int32 → Int32 → Int32 → gx_R → Option (Int32 × gx_R)) : Nat → Int32 → Int32 → Int32 → Int32 → Int32 → gx_R → Option (Int32 × gx_R)
  | 0, _, _, _, _, _, _ => none
  | n + 1, a1, a2, a3, a4, a5, σ => Md_guard_34_B K29 (Md_guard_34 K29 n) a1 a2 a3 a4 a5 σ
noncomputable def Md_guard_29_B (K29 : Int32 → Int32 → Int32 → Int32 → gx_R → Option (Int32 × gx_R)) (a1 : Int32) (a2 : Int32) (a3 : Int32) (a4 : Int32) (σ : gx_R) : Option (Int32 × gx_R) :=
  if (8 : Int32) ≤ a4 then
    some ((-1 : Int32), σ)
  else
    Md_guard_34 K29 z_FU a1 a2 a3 a4 (0 : Int32) σ
noncomputable def Md_guard_29 : Nat → Int32 → Int32 → Int32 → Int32 → gx_R → Option (Int32 × gx_R)
  | 0, _, _, _, _, _ => none
  | n + 1, a1, a2, a3, a4, σ => Md_guard_29_B (Md_guard_29 n) a1 a2 a3 a4 σ
noncomputable def Md_guard (a1 : Int32) (a2 : Int32) (σ : gx_R) : Option (Int32 × gx_R) :=
  z_bd (Md_isAt a1 (2 : Int32) σ) (fun r1 σ2 =>
  if r1 = 0 then
    some ((-1 : Int32), σ2)
  else
    z_bd (Md_isSet a2 σ2) (fun r5 σ6 =>
    if r5 = 0 then
      some ((-1 : Int32), σ6)
    else
      z_bd (Md_has a2 a1 σ6) (fun r9 σ10 =>
      if r9 = 0 then
        z_bd (Md_laysNow σ10) (fun _ σ14 =>
        z_bd (Md_allThat (2 : Int32) σ14) (fun r16 σ17 =>
        Md_guard_29 z_FU a1 a2 (r16 &&& (((1 : Int32) <<< (a1 &&& 31)) ^^^ (-1 : Int32))) (0 : Int32) σ17))
      else
        some ((-1 : Int32), σ10))))
noncomputable def Md_power_4_B (K4 : Int64 → Int32 → Int64 → Int32 → gx_R → Option (Int64 × gx_R)) (l0 : Int64) (a2 : Int32) (l3 : Int64) (a5 : Int32) (σ : gx_R) : Option (Int64 × gx_R) :=
  if a2 ≤ a5 then
    some (l3, σ)
  else
    K4 l0 a2 (l3 * l0) (a5 + 1) σ
noncomputable def Md_power_4 : Nat → Int64 → Int32 → Int64 → Int32 → gx_R → Option (Int64 × gx_R)
  | 0, _, _, _, _, _ => none
  | n + 1, l0, a2, l3, a5, σ => Md_power_4_B (Md_power_4 n) l0 a2 l3 a5 σ
noncomputable def Md_power (l0 : Int64) (a2 : Int32) (σ : gx_R) : Option (Int64 × gx_R) :=
  Md_power_4 z_FU l0 a2 (1 : Int64) (0 : Int32) σ
noncomputable def Md_common_4_B (K4 : Int64 → Int64 → gx_R → Option (Int64 × gx_R)) (l4 : Int64) (l6 : Int64) (σ : gx_R) : Option (Int64 × gx_R) :=
  if (lg_cmp l6 (0 : Int64)) = 0 then
    some (l4, σ)
  else
    z_ck (z_nzl l6) (
    K4 l6 (l4 - l4 / l6 * l6) σ)
noncomputable def Md_common_4 : Nat → Int64 → Int64 → gx_R → Option (Int64 × gx_R)
  | 0, _, _, _ => none
  | n + 1, l4, l6, σ => Md_common_4_B (Md_common_4 n) l4 l6 σ
noncomputable def Md_common (l0 : Int64) (l2 : Int64) (σ : gx_R) : Option (Int64 × gx_R) :=
  Md_common_4 z_FU l0 l2 σ
noncomputable def Md_choices_4_B (K4 : Int32 → Int32 → Int64 → Int32 → gx_R → Option (Int64 × gx_R)) (a0 : Int32) (a1 : Int32) (l2 : Int64) (a4 : Int32) (σ : gx_R) : Option (Int64 × gx_R) :=
  if a1 < a4 then
    some (l2, σ)
  else
    z_ck (z_nzl a4.toInt64) (
    K4 a0 a1 ((l2 * ((a0 - a1) + a4).toInt64) / a4.toInt64) (a4 + 1) σ)
noncomputable def Md_choices_4 : Nat → Int32 → Int32 → Int64 → Int32 → gx_R → Option (Int64 × gx_R)
  | 0, _, _, _, _, _ => none
  | n + 1, a0, a1, l2, a4, σ => Md_choices_4_B (Md_choices_4 n) a0 a1 l2 a4 σ
noncomputable def Md_choices (a0 : Int32) (a1 : Int32) (σ : gx_R) : Option (Int64 × gx_R) :=
  Md_choices_4 z_FU a0 a1 (1 : Int64) (1 : Int32) σ
noncomputable def Md_enough_65 (a1 : Int32) (a3 : Int32) (a5 : Int32) (l10 : Int64) (σ : gx_R) : Option (Int64 × gx_R) :=
  z_bd (Md_power (10 : Int64) (a1 * a3) σ) (fun r34 σ35 =>
  z_bd (Md_common r34 l10 σ35) (fun r37 σ38 =>
  if a5 = 0 then
    z_ck (z_nzl r37) (
    some ((l10 / r37), σ38))
  else
    z_ck (z_nzl r37) (
    some ((r34 / r37), σ38))))
noncomputable def Md_enough_44_B (K44 : Int32 → Int32 → Int32 → Int64 → Int64 → Int64 → Int32 → gx_R → Option (Int64 × gx_R)) (a1 : Int32) (a3 : Int32) (a5 : Int32) (l6 : Int64) (l8 : Int64) (l10 : Int64) (a12 : Int32) (σ : gx_R) : Option (Int64 × gx_R) :=
  if a1 < a12 then
    Md_enough_65 a1 a3 a5 l10 σ
  else
    z_bd (Md_choices a1 a12 σ) (fun r25 σ26 =>
    z_bd (Md_power l6 a12 σ26) (fun r28 σ29 =>
    z_bd (Md_power l8 (a1 - a12) σ29) (fun r31 σ32 =>
    K44 a1 a3 a5 l6 l8 (l10 + ((r25 * r28) * r31)) (a12 + 1) σ32)))
noncomputable def Md_enough_44 : Nat → Int32 → Int32 → Int32 → Int64 → Int64 → Int64 → Int32 → gx_R → Option (Int64 × gx_R)
  | 0, _, _, _, _, _, _, _, _ => none
  | n + 1, a1, a3, a5, l6, l8, l10, a12, σ => Md_enough_44_B (Md_enough_44 n) a1 a3 a5 l6 l8 l10 a12 σ
noncomputable def Md_enough (a1 : Int32) (a2 : Int32) (a3 : Int32) (a4 : Int32) (a5 : Int32) (σ : gx_R) : Option (Int64 × gx_R) :=
  z_bd (Md_in a1 (1 : Int32) (5 : Int32) σ) (fun r1 σ2 =>
  if r1 = 0 then
    some ((-1 : Int64), σ2)
  else
    z_bd (Md_in a2 (0 : Int32) (10 : Int32) σ2) (fun r5 σ6 =>
    if r5 = 0 then
      some ((-1 : Int64), σ6)
    else
      z_bd (Md_in a3 (0 : Int32) (15 : Int32) σ6) (fun r9 σ10 =>
      if r9 = 0 then
        some ((-1 : Int64), σ10)
      else
        if (15 : Int32) < (a1 * a3) then
          some ((-1 : Int64), σ10)
        else
          z_bd (Md_in a4 (0 : Int32) (5 : Int32) σ10) (fun r14 σ15 =>
          if r14 = 0 then
            some ((-1 : Int64), σ15)
          else
            z_bd (Md_power ((10 : Int64) - a2.toInt64) a3 σ15) (fun r18 σ19 =>
            z_bd (Md_power (10 : Int64) a3 σ19) (fun r21 σ22 =>
            Md_enough_44 z_FU a1 a3 a5 r18 (r21 - r18) (0 : Int64) a4 σ22))))))
noncomputable def Md_isInRound_2_B (K2 : Int32 → Int32 → Int32 → gx_R → Option (Int32 × gx_R)) (a1 : Int32) (a2 : Int32) (a3 : Int32) (σ : gx_R) : Option (Int32 × gx_R) :=
  if a2 ≤ a3 then
    some ((0 : Int32), σ)
  else
    z_ck (z_ix a3 8) (
    if (σ 151 a3.toNatClampNeg) = a1 then
      some ((1 : Int32), σ)
    else
      K2 a1 a2 (a3 + 1) σ)
noncomputable def Md_isInRound_2 : Nat → Int32 → Int32 → Int32 → gx_R → Option (Int32 × gx_R)
  | 0, _, _, _, _ => none
  | n + 1, a1, a2, a3, σ => Md_isInRound_2_B (Md_isInRound_2 n) a1 a2 a3 σ
noncomputable def Md_isInRound (a1 : Int32) (a2 : Int32) (σ : gx_R) : Option (Int32 × gx_R) :=
  Md_isInRound_2 z_FU a1 a2 (0 : Int32) σ
noncomputable def Md_isRing_12_B (K12 : Int32 → Int32 → Int32 → gx_R → Option (Int32 × gx_R)) (a1 : Int32) (a2 : Int32) (a3 : Int32) (σ : gx_R) : Option (Int32 × gx_R) :=
  if a3 ≤ 0 then
    some ((0 : Int32), σ)
  else
    z_ck (z_ix a3 8) (
    z_ck (z_ix a3 8) (
    z_ck (z_ix a3 8) (
    if ((gx_up σ 151 a3.toNatClampNeg ((σ 151 a3.toNatClampNeg) + (1 : Int32))) 151 a3.toNatClampNeg) < ((gx_up σ 151 a3.toNatClampNeg ((σ 151 a3.toNatClampNeg) + (1 : Int32))) 110 ((0 : Int32).toNatClampNeg)) then
      z_ck (z_ix a3 8) (
      z_bd (Md_isInRound ((gx_up σ 151 a3.toNatClampNeg ((σ 151 a3.toNatClampNeg) + (1 : Int32))) 151 a3.toNatClampNeg) a3 (gx_up σ 151 a3.toNatClampNeg ((σ 151 a3.toNatClampNeg) + (1 : Int32)))) (fun r7 σ8 =>
      if r7 = 0 then
        z_ck (z_ix (a3 - (1 : Int32)) 8) (
        z_ck (z_ix a3 8) (
        z_ck (z_ix (((98 : Int32) + ((8 : Int32) * (σ8 151 ((a3 - (1 : Int32)).toNatClampNeg)))) + (σ8 151 a3.toNatClampNeg)) 8880) (
        if (σ8 110 ((((98 : Int32) + ((8 : Int32) * (σ8 151 ((a3 - (1 : Int32)).toNatClampNeg)))) + (σ8 151 a3.toNatClampNeg)).toNatClampNeg)) ≤ 0 then
          K12 a1 a2 a3 σ8
        else
          if a3 = (a2 - (1 : Int32)) then
            z_ck (z_ix a3 8) (
            z_ck (z_ix (((98 : Int32) + ((8 : Int32) * (σ8 151 a3.toNatClampNeg))) + a1) 8880) (
            if (σ8 110 ((((98 : Int32) + ((8 : Int32) * (σ8 151 a3.toNatClampNeg))) + a1).toNatClampNeg)) ≤ 0 then
              K12 a1 a2 a3 σ8
            else
              some ((1 : Int32), σ8)))
          else
            z_ck (z_ix (a3 + 1) 8) (
            K12 a1 a2 (a3 + 1) (gx_up σ8 151 (a3 + 1).toNatClampNeg a1)))))
      else
        K12 a1 a2 a3 σ8))
    else
      K12 a1 a2 (a3 + (-1)) (gx_up σ 151 a3.toNatClampNeg ((σ 151 a3.toNatClampNeg) + (1 : Int32))))))
noncomputable def Md_isRing_12 : Nat → Int32 → Int32 → Int32 → gx_R → Option (Int32 × gx_R)
  | 0, _, _, _, _ => none
  | n + 1, a1, a2, a3, σ => Md_isRing_12_B (Md_isRing_12 n) a1 a2 a3 σ
noncomputable def Md_isRing (a1 : Int32) (a2 : Int32) (σ : gx_R) : Option (Int32 × gx_R) :=
  Md_isRing_12 z_FU a1 a2 (1 : Int32) (gx_up (gx_up σ 151 (0 : Int32).toNatClampNeg a1) 151 (1 : Int32).toNatClampNeg a1)
noncomputable def Md_laysRing_25 (K2 : Int32 → gx_R → Option (Int32 × gx_R)) (a1 : Int32) (σ : gx_R) : Option (Int32 × gx_R) :=
  K2 (a1 + 1) σ
noncomputable def Md_laysRing_10_B (K2 : Int32 → gx_R → Option (Int32 × gx_R)) (K10 : Int32 → Int32 → gx_R → Option (Int32 × gx_R)) (a1 : Int32) (a2 : Int32) (σ : gx_R) : Option (Int32 × gx_R) :=
  if (σ 110 ((0 : Int32).toNatClampNeg)) ≤ a2 then
    Md_laysRing_25 K2 a1 σ
  else
    z_bd (Md_isRing a2 a1 σ) (fun r3 σ4 =>
    if r3 = 0 then
      K10 a1 (a2 + 1) σ4
    else
      some (a1, σ4))
noncomputable def Md_laysRing_10 (K2 : Int32 → gx_R → Option (Int32 × gx_R)) : Nat → Int32 → Int32 → gx_R → Option (Int32 × gx_R)
  | 0, _, _, _ => none
  | n + 1, a1, a2, σ => Md_laysRing_10_B K2 (Md_laysRing_10 K2 n) a1 a2 σ
noncomputable def Md_laysRing_2_B (K2 : Int32 → gx_R → Option (Int32 × gx_R)) (a1 : Int32) (σ : gx_R) : Option (Int32 × gx_R) :=
  if (σ 110 ((0 : Int32).toNatClampNeg)) < a1 then
    some ((-1 : Int32), σ)
  else
    Md_laysRing_10 K2 z_FU a1 (0 : Int32) σ
noncomputable def Md_laysRing_2 : Nat → Int32 → gx_R → Option (Int32 × gx_R)
  | 0, _, _ => none
  | n + 1, a1, σ => Md_laysRing_2_B (Md_laysRing_2 n) a1 σ
noncomputable def Md_laysRing (σ : gx_R) : Option (Int32 × gx_R) :=
  Md_laysRing_2 z_FU (2 : Int32) σ
noncomputable def Md_ring_61 (K31 : Int32 → Int32 → Int32 → gx_R → Option (Int32 × gx_R)) (a2 : Int32) (a4 : Int32) (s0 : Int32) (σ : gx_R) : Option (Int32 × gx_R) :=
  K31 a2 s0 (a4 + 1) σ
noncomputable def Md_ring_31_B (K31 : Int32 → Int32 → Int32 → gx_R → Option (Int32 × gx_R)) (a2 : Int32) (a3 : Int32) (a4 : Int32) (σ : gx_R) : Option (Int32 × gx_R) :=
  if a2 ≤ a4 then
    some (a3, σ)
  else
    z_ck (z_ix a4 8) (
    z_ck (z_nzi a2) (
    z_ck (z_ix ((a4 + (1 : Int32)) - (a4 + (1 : Int32)) / a2 * a2) 8) (
    z_ck (z_ix (((98 : Int32) + ((8 : Int32) * (σ 151 a4.toNatClampNeg))) + (σ 151 (((a4 + (1 : Int32)) - (a4 + (1 : Int32)) / a2 * a2).toNatClampNeg))) 8880) (
    if a3 ≤ (σ 110 ((((98 : Int32) + ((8 : Int32) * (σ 151 a4.toNatClampNeg))) + (σ 151 (((a4 + (1 : Int32)) - (a4 + (1 : Int32)) / a2 * a2).toNatClampNeg))).toNatClampNeg)) then
      Md_ring_61 K31 a2 a4 a3 σ
    else
      Md_ring_61 K31 a2 a4 (σ 110 ((((98 : Int32) + ((8 : Int32) * (σ 151 a4.toNatClampNeg))) + (σ 151 (((a4 + (1 : Int32)) - (a4 + (1 : Int32)) / a2 * a2).toNatClampNeg))).toNatClampNeg)) σ))))
noncomputable def Md_ring_31 : Nat → Int32 → Int32 → Int32 → gx_R → Option (Int32 × gx_R)
  | 0, _, _, _, _ => none
  | n + 1, a2, a3, a4, σ => Md_ring_31_B (Md_ring_31 n) a2 a3 a4 σ
noncomputable def Md_ring (a1 : Int32) (σ : gx_R) : Option (Int32 × gx_R) :=
  z_bd (Md_laysRing σ) (fun r1 σ2 =>
  if r1 = (-1 : Int32) then
    some ((-1 : Int32), σ2)
  else
    if a1 < (-2 : Int32) then
      some ((-1 : Int32), σ2)
    else
      if a1 < r1 then
        if a1 < (-1 : Int32) then
          Md_ring_31 z_FU r1 (99 : Int32) (0 : Int32) σ2
        else
          if a1 = (-1 : Int32) then
            some (r1, σ2)
          else
            z_ck (z_ix a1 8) (
            some ((σ2 151 a1.toNatClampNeg), σ2))
      else
        some ((-1 : Int32), σ2))
noncomputable def Md_stopsWithout_39 (K4 : Int32 → Int32 → Int32 → gx_R → Option (Int32 × gx_R)) (a1 : Int32) (a2 : Int32) (a3 : Int32) (σ : gx_R) : Option (Int32 × gx_R) :=
  K4 a1 a2 (a3 + 1) σ
noncomputable def Md_stopsWithout_4_B (K4 : Int32 → Int32 → Int32 → gx_R → Option (Int32 × gx_R)) (a1 : Int32) (a2 : Int32) (a3 : Int32) (σ : gx_R) : Option (Int32 × gx_R) :=
  if (σ 110 ((0 : Int32).toNatClampNeg)) ≤ a3 then
    some (a2, σ)
  else
    z_ck (z_ix a3 8) (
    if (σ 135 a3.toNatClampNeg) = (1 : Int32) then
      z_bd (Md_fuelOf a3 a1 (0 : Int32) σ) (fun r4 σ5 =>
      z_ck (z_ix a3 8) (
      z_ck (z_ix a3 8) (
      z_bd (Md_burnBy a3 (σ5 137 a3.toNatClampNeg) (σ5 136 a3.toNatClampNeg) σ5) (fun r9 σ10 =>
      if r9 ≤ r4 then
        Md_stopsWithout_39 K4 a1 a2 a3 σ10
      else
        Md_stopsWithout_39 K4 a1 (a2 ||| ((1 : Int32) <<< (a3 &&& 31))) a3 σ10))))
    else
      Md_stopsWithout_39 K4 a1 a2 a3 σ)
noncomputable def Md_stopsWithout_4 : Nat → Int32 → Int32 → Int32 → gx_R → Option (Int32 × gx_R)
  | 0, _, _, _, _ => none
  | n + 1, a1, a2, a3, σ => Md_stopsWithout_4_B (Md_stopsWithout_4 n) a1 a2 a3 σ
noncomputable def Md_stopsWithout (a1 : Int32) (σ : gx_R) : Option (Int32 × gx_R) :=
  Md_stopsWithout_4 z_FU a1 (0 : Int32) (0 : Int32) σ
noncomputable def Md_without (a1 : Int32) (σ : gx_R) : Option (Int32 × gx_R) :=
  z_bd (Md_in a1 (0 : Int32) (255 : Int32) σ) (fun r1 σ2 =>
  if r1 = 0 then
    some ((-1 : Int32), σ2)
  else
    z_bd (Md_laysNow σ2) (fun _ σ6 =>
    z_bd (Md_stopsWithout a1 σ6) (fun r8 σ9 =>
    some (r8, σ9))))
noncomputable def Md_strike_41 (K20 : Int32 → Int32 → Int32 → Int32 → gx_R → Option (Int32 × gx_R)) (a1 : Int32) (a2 : Int32) (a3 : Int32) (a4 : Int32) (σ : gx_R) : Option (Int32 × gx_R) :=
  K20 a1 a2 a3 (a4 + 1) σ
noncomputable def Md_strike_43 (K15 : Int32 → Int32 → Int32 → gx_R → Option (Int32 × gx_R)) (a1 : Int32) (a2 : Int32) (a3 : Int32) (σ : gx_R) : Option (Int32 × gx_R) :=
  K15 a1 a2 (a3 + 1) σ
noncomputable def Md_strike_20_B (K15 : Int32 → Int32 → Int32 → gx_R → Option (Int32 × gx_R)) (K20 : Int32 → Int32 → Int32 → Int32 → gx_R → Option (Int32 × gx_R)) (a1 : Int32) (a2 : Int32) (a3 : Int32) (a4 : Int32) (σ : gx_R) : Option (Int32 × gx_R) :=
  if (256 : Int32) ≤ a4 then
    Md_strike_43 K15 a1 a2 a3 σ
  else
    if (a4 &&& (a2 ^^^ (-1 : Int32))) = 0 then
      z_bd (Md_many a4 σ) (fun r14 σ15 =>
      if r14 = a3 then
        z_bd (Md_stopsWithout a4 σ15) (fun r18 σ19 =>
        z_bd (Md_has r18 a1 σ19) (fun r21 σ22 =>
        if r21 = 0 then
          Md_strike_41 K20 a1 a2 a3 a4 σ22
        else
          some (a4, σ22)))
      else
        Md_strike_41 K20 a1 a2 a3 a4 σ15)
    else
      Md_strike_41 K20 a1 a2 a3 a4 σ
noncomputable def Md_strike_20 (K15 : Int32 → Int32 → Int32 → gx_R → Option (Int32 × gx_R)) : Nat → Int32 → Int32 → Int32 → Int32 → gx_R → Option (Int32 × gx_R)
  | 0, _, _, _, _, _ => none
  | n + 1, a1, a2, a3, a4, σ => Md_strike_20_B K15 (Md_strike_20 K15 n) a1 a2 a3 a4 σ
noncomputable def Md_strike_15_B (K15 : Int32 → Int32 → Int32 → gx_R → Option (Int32 × gx_R)) (a1 : Int32) (a2 : Int32) (a3 : Int32) (σ : gx_R) : Option (Int32 × gx_R) :=
  if (8 : Int32) ≤ a3 then
    some ((-1 : Int32), σ)
  else
    Md_strike_20 K15 z_FU a1 a2 a3 (0 : Int32) σ
noncomputable def Md_strike_15 : Nat → Int32 → Int32 → Int32 → gx_R → Option (Int32 × gx_R)
  | 0, _, _, _, _ => none
  | n + 1, a1, a2, a3, σ => Md_strike_15_B (Md_strike_15 n) a1 a2 a3 σ
noncomputable def Md_strike (a1 : Int32) (σ : gx_R) : Option (Int32 × gx_R) :=
  z_bd (Md_isAt a1 (1 : Int32) σ) (fun r1 σ2 =>
  if r1 = 0 then
    some ((-1 : Int32), σ2)
  else
    z_bd (Md_laysNow σ2) (fun _ σ6 =>
    z_bd (Md_allThat (2 : Int32) σ6) (fun r8 σ9 =>
    Md_strike_15 z_FU a1 r8 (0 : Int32) σ9)))
noncomputable def Md_fits_55 (K77 : Int32 → Int32 → Int32 → Int32 → gx_R → Option (Int32 × gx_R)) (a1 : Int32) (a2 : Int32) (a3 : Int32) (a4 : Int32) (a5 : Int32) (σ : gx_R) : Option (Int32 × gx_R) :=
  z_ck (z_ix (a5 + (1 : Int32)) 8880) (
  z_bd (Md_has (σ 110 ((a5 + (1 : Int32)).toNatClampNeg)) a1 σ) (fun r17 σ18 =>
  if r17 = 0 then
    K77 a1 a2 a3 a4 σ18
  else
    z_ck (z_ix (a5 + (2 : Int32)) 8880) (
    K77 a1 (a2 &&& ((σ18 110 ((a5 + (2 : Int32)).toNatClampNeg)) ^^^ (-1 : Int32))) (1 : Int32) a4 σ18)))
noncomputable def Md_fits_77 (K19 : Int32 → Int32 → Int32 → Int32 → gx_R → Option (Int32 × gx_R)) (a1 : Int32) (a2 : Int32) (a3 : Int32) (a4 : Int32) (σ : gx_R) : Option (Int32 × gx_R) :=
  K19 a1 a2 a3 (a4 + 1) σ
noncomputable def Md_fits_79 (a2 : Int32) (a3 : Int32) (σ : gx_R) : Option (Int32 × gx_R) :=
  if a3 = 0 then
    some ((-1 : Int32), σ)
  else
    some (a2, σ)
noncomputable def Md_fits_19_B (K19 : Int32 → Int32 → Int32 → Int32 → gx_R → Option (Int32 × gx_R)) (a1 : Int32) (a2 : Int32) (a3 : Int32) (a4 : Int32) (σ : gx_R) : Option (Int32 × gx_R) :=
  if (σ 110 ((162 : Int32).toNatClampNeg)) ≤ a4 then
    Md_fits_79 a2 a3 σ
  else
    z_bd (Md_isKept a4 σ) (fun r6 σ7 =>
    if r6 = 0 then
      Md_fits_77 K19 a1 a2 a3 a4 σ7
    else
      z_ck (z_ix ((164 : Int32) + ((3 : Int32) * (a4 - a4 / (60 : Int32) * (60 : Int32)))) 8880) (
      z_bd (Md_has (σ7 110 (((164 : Int32) + ((3 : Int32) * (a4 - a4 / (60 : Int32) * (60 : Int32)))).toNatClampNeg)) a1 σ7) (fun r11 σ12 =>
      if r11 = 0 then
        Md_fits_55 (Md_fits_77 K19) a1 a2 a3 a4 ((164 : Int32) + ((3 : Int32) * (a4 - a4 / (60 : Int32) * (60 : Int32)))) σ12
      else
        z_ck (z_ix (((164 : Int32) + ((3 : Int32) * (a4 - a4 / (60 : Int32) * (60 : Int32)))) + (2 : Int32)) 8880) (
        Md_fits_55 (Md_fits_77 K19) a1 (a2 &&& (σ12 110 ((((164 : Int32) + ((3 : Int32) * (a4 - a4 / (60 : Int32) * (60 : Int32)))) + (2 : Int32)).toNatClampNeg))) (1 : Int32) a4 ((164 : Int32) + ((3 : Int32) * (a4 - a4 / (60 : Int32) * (60 : Int32)))) σ12))))
noncomputable def Md_fits_19 : Nat → Int32 → Int32 → Int32 → Int32 → gx_R → Option (Int32 × gx_R)
  | 0, _, _, _, _, _ => none
  | n + 1, a1, a2, a3, a4, σ => Md_fits_19_B (Md_fits_19 n) a1 a2 a3 a4 σ
noncomputable def Md_fits (a1 : Int32) (σ : gx_R) : Option (Int32 × gx_R) :=
  z_bd (Md_isPerson a1 σ) (fun r1 σ2 =>
  if r1 = 0 then
    some ((-1 : Int32), σ2)
  else
    Md_fits_19 z_FU a1 (((1 : Int32) <<< ((σ2 110 ((0 : Int32).toNatClampNeg)) &&& 31)) - (1 : Int32)) (0 : Int32) (0 : Int32) σ2)
noncomputable def Md_forNobody_36 (K37 : Int32 → Int32 → Int32 → gx_R → Option (Int32 × gx_R)) (a2 : Int32) (s0 : Int32) (σ : gx_R) : Option (Int32 × gx_R) :=
  K37 a2 s0 (0 : Int32) σ
noncomputable def Md_forNobody_37 (K4 : Int32 → Int32 → gx_R → Option (Int32 × gx_R)) (a2 : Int32) (s0 : Int32) (s1 : Int32) (σ : gx_R) : Option (Int32 × gx_R) :=
  K4 (s0 ||| s1) (a2 + 1) σ
noncomputable def Md_forNobody_4_B (K4 : Int32 → Int32 → gx_R → Option (Int32 × gx_R)) (a1 : Int32) (a2 : Int32) (σ : gx_R) : Option (Int32 × gx_R) :=
  if (σ 110 ((0 : Int32).toNatClampNeg)) ≤ a2 then
    some (a1, σ)
  else
    z_ck (z_ix ((60 : Int32) + a2) 8880) (
    if (σ 110 (((60 : Int32) + a2).toNatClampNeg)) = (2 : Int32) then
      z_ck (z_ix ((68 : Int32) + a2) 8880) (
      z_ck (z_ix ((60 : Int32) + (σ 110 (((68 : Int32) + a2).toNatClampNeg))) 8880) (
      if (σ 110 (((60 : Int32) + (σ 110 (((68 : Int32) + a2).toNatClampNeg))).toNatClampNeg)) = (1 : Int32) then
        Md_forNobody_36 (Md_forNobody_37 K4) a2 a1 σ
      else
        Md_forNobody_37 K4 a2 a1 ((1 : Int32) <<< (a2 &&& 31)) σ))
    else
      Md_forNobody_36 (Md_forNobody_37 K4) a2 a1 σ)
noncomputable def Md_forNobody_4 : Nat → Int32 → Int32 → gx_R → Option (Int32 × gx_R)
  | 0, _, _, _ => none
  | n + 1, a1, a2, σ => Md_forNobody_4_B (Md_forNobody_4 n) a1 a2 σ
noncomputable def Md_forNobody (σ : gx_R) : Option (Int32 × gx_R) :=
  Md_forNobody_4 z_FU (0 : Int32) (0 : Int32) σ
noncomputable def Md_image (σ : gx_R) : Option (Int32 × gx_R) :=
  z_bd (Md_copies (1 : Int32) σ) (fun _ σ2 =>
  some ((σ2 110 ((162 : Int32).toNatClampNeg)), σ2))
noncomputable def Md_back (σ : gx_R) : Option (Int32 × gx_R) :=
  z_bd (Md_copies (0 : Int32) σ) (fun _ σ2 =>
  some ((σ2 110 ((162 : Int32).toNatClampNeg)), σ2))
noncomputable def Md_about (a1 : Int32) (σ : gx_R) : Option (Int32 × gx_R) :=
  z_bd (Md_laysNow σ) (fun _ σ2 =>
  if a1 = (0 : Int32) then
    some ((σ2 110 ((0 : Int32).toNatClampNeg)), σ2)
  else
  if a1 = (1 : Int32) then
    some ((σ2 110 ((1 : Int32).toNatClampNeg)), σ2)
  else
  if a1 = (2 : Int32) then
    some ((σ2 110 ((162 : Int32).toNatClampNeg)), σ2)
  else
  if a1 = (3 : Int32) then
    some ((σ2 110 ((163 : Int32).toNatClampNeg)), σ2)
  else
  if a1 = (4 : Int32) then
    some ((σ2 110 ((2 : Int32).toNatClampNeg)), σ2)
  else
  if a1 = (5 : Int32) then
    some ((σ2 110 ((3 : Int32).toNatClampNeg)), σ2)
  else
  if a1 = (6 : Int32) then
    some ((σ2 110 ((4 : Int32).toNatClampNeg)), σ2)
  else
  if a1 = (7 : Int32) then
    z_bd (Md_allThat (1 : Int32) σ2) (fun r12 σ13 =>
    some (r12, σ13))
  else
  if a1 = (8 : Int32) then
    z_bd (Md_allThat (2 : Int32) σ2) (fun r16 σ17 =>
    some (r16, σ17))
  else
  if a1 = (9 : Int32) then
    some ((σ2 109 3), σ2)
  else
    some ((-2 : Int32), σ2))
