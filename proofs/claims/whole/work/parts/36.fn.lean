noncomputable def Md_hourDone (σ : gx_R) : Option (Int32 × gx_R) :=
  z_bd (Md_laysNow σ) (fun _ σ2 =>
  z_bd (Md_hourGoes σ2) (fun r4 σ5 =>
  z_bd (Md_keepsHour σ5) (fun _ σ8 =>
  z_bd (Md_keepsNow σ8) (fun _ σ11 =>
  some (r4, σ11)))))
noncomputable def Md_hour_19_B (K19 : Int32 → Int32 → Int32 → gx_R → Option (Int32 × gx_R)) (a1 : Int32) (a2 : Int32) (a3 : Int32) (σ : gx_R) : Option (Int32 × gx_R) :=
  if a1 ≤ a3 then
    some (a2, σ)
  else
    z_bd (Md_keepsStep σ) (fun _ σ8 =>
    z_bd (Md_hourDone σ8) (fun r10 σ11 =>
    K19 a1 (a2 + r10) (a3 + 1) σ11))
noncomputable def Md_hour_19 : Nat → Int32 → Int32 → Int32 → gx_R → Option (Int32 × gx_R)
  | 0, _, _, _, _ => none
  | n + 1, a1, a2, a3, σ => Md_hour_19_B (Md_hour_19 n) a1 a2 a3 σ
noncomputable def Md_hour (a1 : Int32) (σ : gx_R) : Option (Int32 × gx_R) :=
  z_bd (Md_in a1 (1 : Int32) (60 : Int32) σ) (fun r1 σ2 =>
  if r1 = 0 then
    some ((-1 : Int32), σ2)
  else
    if ((σ2 110 ((162 : Int32).toNatClampNeg)) + a1) ≤ (999 : Int32) then
      Md_hour_19 z_FU a1 (0 : Int32) (0 : Int32) σ2
    else
      some ((-1 : Int32), σ2))
noncomputable def Md_isAt (a1 : Int32) (a2 : Int32) (σ : gx_R) : Option (Int32 × gx_R) :=
  z_bd (Md_isPerson a1 σ) (fun r1 σ2 =>
  if r1 = 0 then
    some ((0 : Int32), σ2)
  else
    z_ck (z_ix ((60 : Int32) + a1) 8880) (
    if (σ2 110 (((60 : Int32) + a1).toNatClampNeg)) = a2 then
      some ((1 : Int32), σ2)
    else
      some ((0 : Int32), σ2)))
noncomputable def Md_beginsTo (a1 : Int32) (a2 : Int32) (a3 : Int32) (σ : gx_R) : Option (Unit × gx_R) :=
  z_ck (z_ix ((60 : Int32) + a1) 8880) (
  z_ck (z_ix ((68 : Int32) + a1) 8880) (
  z_ck (z_ix ((76 : Int32) + a1) 8880) (
  some ((), (gx_up (gx_up (gx_up σ 110 ((60 : Int32) + a1).toNatClampNeg a2) 110 ((68 : Int32) + a1).toNatClampNeg a3) 110 ((76 : Int32) + a1).toNatClampNeg (0 : Int32))))))
noncomputable def Md_wake (a1 : Int32) (a2 : Int32) (σ : gx_R) : Option (Int32 × gx_R) :=
  z_bd (Md_isAt a1 (0 : Int32) σ) (fun r1 σ2 =>
  if r1 = 0 then
    some ((0 : Int32), σ2)
  else
    z_bd (Md_isWork a2 σ2) (fun r5 σ6 =>
    if r5 = 0 then
      some ((0 : Int32), σ6)
    else
      z_bd (Md_keepsStep σ6) (fun _ σ10 =>
      z_bd (Md_beginsTo a1 (1 : Int32) a2 σ10) (fun _ σ13 =>
      some ((1 : Int32), σ13)))))
noncomputable def Md_sleep (a1 : Int32) (a2 : Int32) (σ : gx_R) : Option (Int32 × gx_R) :=
  z_bd (Md_isAt a1 (0 : Int32) σ) (fun r1 σ2 =>
  if r1 = 0 then
    some ((0 : Int32), σ2)
  else
    z_bd (Md_isPerson a2 σ2) (fun r5 σ6 =>
    if r5 = 0 then
      some ((0 : Int32), σ6)
    else
      z_ck (z_ix ((26 : Int32) + a1) 8880) (
      z_bd (Md_has (σ6 110 (((26 : Int32) + a1).toNatClampNeg)) a2 σ6) (fun r10 σ11 =>
      if r10 = 0 then
        some ((0 : Int32), σ11)
      else
        z_bd (Md_keepsStep σ11) (fun _ σ15 =>
        z_bd (Md_beginsTo a1 (2 : Int32) a2 σ15) (fun _ σ18 =>
        some ((1 : Int32), σ18)))))))
noncomputable def Md_idle (a1 : Int32) (σ : gx_R) : Option (Int32 × gx_R) :=
  z_bd (Md_isPerson a1 σ) (fun r1 σ2 =>
  if r1 = 0 then
    some ((0 : Int32), σ2)
  else
    z_ck (z_ix ((60 : Int32) + a1) 8880) (
    if (σ2 110 (((60 : Int32) + a1).toNatClampNeg)) = 0 then
      some ((0 : Int32), σ2)
    else
      z_bd (Md_keepsStep σ2) (fun _ σ8 =>
      z_bd (Md_beginsTo a1 (0 : Int32) (-1 : Int32) σ8) (fun _ σ11 =>
      some ((1 : Int32), σ11)))))
noncomputable def Md_calls (a1 : Int32) (σ : gx_R) : Option (Int32 × gx_R) :=
  z_bd (Md_laysNow σ) (fun _ σ2 =>
  z_bd (Md_wakesOn ((1 : Int32) <<< (a1 &&& 31)) (0 : Int32) σ2) (fun r4 σ5 =>
  z_bd (Md_idles r4 σ5) (fun _ σ8 =>
  z_bd (Md_keepsNow σ8) (fun _ σ11 =>
  z_bd (Md_many r4 σ11) (fun r13 σ14 =>
  some (r13, σ14))))))
noncomputable def Md_call (a1 : Int32) (σ : gx_R) : Option (Int32 × gx_R) :=
  z_bd (Md_isAt a1 (2 : Int32) σ) (fun r1 σ2 =>
  if r1 = 0 then
    some ((-1 : Int32), σ2)
  else
    z_bd (Md_keepsStep σ2) (fun _ σ6 =>
    z_bd (Md_calls a1 σ6) (fun r8 σ9 =>
    some (r8, σ9))))
noncomputable def Md_repay (a1 : Int32) (a2 : Int32) (a3 : Int32) (σ : gx_R) : Option (Int32 × gx_R) :=
  z_bd (Md_isPerson a1 σ) (fun r1 σ2 =>
  if r1 = 0 then
    some ((-1 : Int32), σ2)
  else
    z_bd (Md_isPerson a2 σ2) (fun r5 σ6 =>
    if r5 = 0 then
      some ((-1 : Int32), σ6)
    else
      if a1 = a2 then
        some ((-1 : Int32), σ6)
      else
        z_ck (z_ix (((98 : Int32) + ((8 : Int32) * a1)) + a2) 8880) (
        z_bd (Md_in a3 (1 : Int32) (σ6 110 ((((98 : Int32) + ((8 : Int32) * a1)) + a2).toNatClampNeg)) σ6) (fun r11 σ12 =>
        if r11 = 0 then
          some ((-1 : Int32), σ12)
        else
          z_bd (Md_keepsStep σ12) (fun _ σ16 =>
          z_ck (z_ix (((98 : Int32) + ((8 : Int32) * a1)) + a2) 8880) (
          z_ck (z_ix (((98 : Int32) + ((8 : Int32) * a1)) + a2) 8880) (
          z_ck (z_ix (((98 : Int32) + ((8 : Int32) * a1)) + a2) 8880) (
          some (((gx_up σ16 110 (((98 : Int32) + ((8 : Int32) * a1)) + a2).toNatClampNeg ((σ16 110 ((((98 : Int32) + ((8 : Int32) * a1)) + a2).toNatClampNeg)) - a3)) 110 ((((98 : Int32) + ((8 : Int32) * a1)) + a2).toNatClampNeg)), (gx_up σ16 110 (((98 : Int32) + ((8 : Int32) * a1)) + a2).toNatClampNeg ((σ16 110 ((((98 : Int32) + ((8 : Int32) * a1)) + a2).toNatClampNeg)) - a3)))))))))))
noncomputable def Md_draw (a1 : Int32) (σ : gx_R) : Option (Int32 × gx_R) :=
  z_ck (z_nzi a1) (
  some (((σ 110 ((163 : Int32).toNatClampNeg)) - (σ 110 ((163 : Int32).toNatClampNeg)) / a1 * a1), (gx_up σ 110 (163 : Int32).toNatClampNeg ((((σ 110 ((163 : Int32).toNatClampNeg)) * (241 : Int32)) + (139 : Int32)) - (((σ 110 ((163 : Int32).toNatClampNeg)) * (241 : Int32)) + (139 : Int32)) / (30211 : Int32) * (30211 : Int32)))))
noncomputable def Md_lowestFor_30 (K31 : Int32 → Int32 → Int32 → gx_R → Option (Int32 × gx_R)) (a1 : Int32) (a2 : Int32) (a3 : Int32) (σ : gx_R) : Option (Int32 × gx_R) :=
  K31 a1 a3 a2 σ
noncomputable def Md_lowestFor_31 (K9 : Int32 → Int32 → Int32 → gx_R → Option (Int32 × gx_R)) (a1 : Int32) (a3 : Int32) (s0 : Int32) (σ : gx_R) : Option (Int32 × gx_R) :=
  K9 a1 s0 (a3 + (-1)) σ
noncomputable def Md_lowestFor_9_B (K9 : Int32 → Int32 → Int32 → gx_R → Option (Int32 × gx_R)) (a1 : Int32) (a2 : Int32) (a3 : Int32) (σ : gx_R) : Option (Int32 × gx_R) :=
  if a3 < 0 then
    some (a2, σ)
  else
    z_ck (z_ix ((26 : Int32) + a1) 8880) (
    z_bd (Md_has (σ 110 (((26 : Int32) + a1).toNatClampNeg)) a3 σ) (fun r3 σ4 =>
    if r3 = 0 then
      Md_lowestFor_30 (Md_lowestFor_31 K9) a1 a2 a3 σ4
    else
      z_ck (z_ix ((60 : Int32) + a3) 8880) (
      if (σ4 110 (((60 : Int32) + a3).toNatClampNeg)) = (1 : Int32) then
        Md_lowestFor_31 K9 a1 a3 a3 σ4
      else
        Md_lowestFor_30 (Md_lowestFor_31 K9) a1 a2 a3 σ4)))
noncomputable def Md_lowestFor_9 : Nat → Int32 → Int32 → Int32 → gx_R → Option (Int32 × gx_R)
  | 0, _, _, _, _ => none
  | n + 1, a1, a2, a3, σ => Md_lowestFor_9_B (Md_lowestFor_9 n) a1 a2 a3 σ
noncomputable def Md_lowestFor (a1 : Int32) (σ : gx_R) : Option (Int32 × gx_R) :=
  Md_lowestFor_9 z_FU a1 (-1 : Int32) ((σ 110 ((0 : Int32).toNatClampNeg)) - (1 : Int32)) σ
noncomputable def Md_happens_70 (σ : gx_R) : Option (Int32 × gx_R) :=
  some ((0 : Int32), σ)
noncomputable def Md_happens_93 (σ : gx_R) : Option (Int32 × gx_R) :=
  some ((0 : Int32), σ)
noncomputable def Md_happens_35 (σ : gx_R) : Option (Int32 × gx_R) :=
  some ((0 : Int32), σ)
noncomputable def Md_happens_26 (a2 : Int32) (s0 : Int32) (σ : gx_R) : Option (Int32 × gx_R) :=
  if s0 = (-1 : Int32) then
    Md_happens_35 σ
  else
    z_bd (Md_beginsTo a2 (2 : Int32) s0 σ) (fun _ σ41 =>
    Md_happens_35 σ41)
noncomputable def Md_happens (σ : gx_R) : Option (Int32 × gx_R) :=
  z_bd (Md_draw (8 : Int32) σ) (fun r1 σ2 =>
  if (3 : Int32) ≤ r1 then
    if r1 = (3 : Int32) then
      if (σ2 110 ((1 : Int32).toNatClampNeg)) ≤ 0 then
        some ((0 : Int32), σ2)
      else
        z_bd (Md_draw (σ2 110 ((0 : Int32).toNatClampNeg)) σ2) (fun r7 σ8 =>
        z_bd (Md_draw (σ8 110 ((1 : Int32).toNatClampNeg)) σ8) (fun r10 σ11 =>
        z_ck (z_ix ((60 : Int32) + r7) 8880) (
        if (σ11 110 (((60 : Int32) + r7).toNatClampNeg)) = 0 then
          z_bd (Md_beginsTo r7 (1 : Int32) r10 σ11) (fun _ σ16 =>
          Md_happens_70 σ16)
        else
          Md_happens_70 σ11)))
    else
      if r1 = (4 : Int32) then
        z_bd (Md_draw (σ2 110 ((0 : Int32).toNatClampNeg)) σ2) (fun r19 σ20 =>
        z_ck (z_ix ((60 : Int32) + r19) 8880) (
        if (σ20 110 (((60 : Int32) + r19).toNatClampNeg)) = (2 : Int32) then
          z_bd (Md_calls r19 σ20) (fun r24 σ25 =>
          Md_happens_93 σ25)
        else
          Md_happens_93 σ20))
      else
        if (999 : Int32) ≤ (σ2 110 ((162 : Int32).toNatClampNeg)) then
          some ((0 : Int32), σ2)
        else
          z_bd (Md_hourDone σ2) (fun r28 σ29 =>
          some (r28, σ29))
  else
    z_bd (Md_draw (σ2 110 ((0 : Int32).toNatClampNeg)) σ2) (fun r31 σ32 =>
    z_ck (z_ix ((60 : Int32) + r31) 8880) (
    if (σ32 110 (((60 : Int32) + r31).toNatClampNeg)) = 0 then
      z_bd (Md_lowestFor r31 σ32) (fun r36 σ37 =>
      Md_happens_26 r31 r36 σ37)
    else
      Md_happens_26 r31 (-1 : Int32) σ32)))
noncomputable def Md_year_32_B (K32 : Int32 → Int32 → Int32 → gx_R → Option (Int32 × gx_R)) (a2 : Int32) (a3 : Int32) (a4 : Int32) (σ : gx_R) : Option (Int32 × gx_R) :=
  if a2 ≤ a4 then
    some (a3, σ)
  else
    z_bd (Md_happens σ) (fun r14 σ15 =>
    K32 a2 (a3 + r14) (a4 + 1) σ15)
noncomputable def Md_year_32 : Nat → Int32 → Int32 → Int32 → gx_R → Option (Int32 × gx_R)
  | 0, _, _, _, _ => none
  | n + 1, a2, a3, a4, σ => Md_year_32_B (Md_year_32 n) a2 a3 a4 σ
noncomputable def Md_year (a1 : Int32) (a2 : Int32) (σ : gx_R) : Option (Int32 × gx_R) :=
  z_bd (Md_in a1 (0 : Int32) (9999 : Int32) σ) (fun r1 σ2 =>
  if r1 = 0 then
    some ((-1 : Int32), σ2)
  else
    z_bd (Md_in a2 (1 : Int32) (30 : Int32) σ2) (fun r5 σ6 =>
    if r5 = 0 then
      some ((-1 : Int32), σ6)
    else
      if (σ6 110 ((0 : Int32).toNatClampNeg)) = 0 then
        some ((-1 : Int32), σ6)
      else
        z_bd (Md_keepsStep σ6) (fun _ σ11 =>
        Md_year_32 z_FU a2 (0 : Int32) (0 : Int32) (gx_up σ11 110 (163 : Int32).toNatClampNeg ((a1 * (2 : Int32)) + (43 : Int32))))))
noncomputable def Md_hours_2_B (K2 : Int32 → Int32 → gx_R → Option (Int32 × gx_R)) (a1 : Int32) (a2 : Int32) (σ : gx_R) : Option (Int32 × gx_R) :=
  if a1 ≤ a2 then
    some ((1 : Int32), σ)
  else
    z_bd (Md_hour (1 : Int32) σ) (fun r2 σ3 =>
    if r2 = (-1 : Int32) then
      some ((0 : Int32), σ3)
    else
      K2 a1 (a2 + 1) σ3)
noncomputable def Md_hours_2 : Nat → Int32 → Int32 → gx_R → Option (Int32 × gx_R)
  | 0, _, _, _ => none
  | n + 1, a1, a2, σ => Md_hours_2_B (Md_hours_2 n) a1 a2 σ
noncomputable def Md_hours (a1 : Int32) (σ : gx_R) : Option (Int32 × gx_R) :=
  Md_hours_2 z_FU a1 (0 : Int32) σ
noncomputable def Md_played_97 (K107 : Int32 → Int32 → Int32 → gx_R → Option (Int32 × gx_R)) (a1 : Int32) (a2 : Int32) (s0 : Int32) (σ : gx_R) : Option (Int32 × gx_R) :=
  K107 a1 a2 s0 σ
noncomputable def Md_played_76 (K107 : Int32 → Int32 → Int32 → gx_R → Option (Int32 × gx_R)) (a1 : Int32) (a2 : Int32) (s0 : Int32) (σ : gx_R) : Option (Int32 × gx_R) :=
  K107 a1 a2 s0 σ
noncomputable def Md_played_107 (K14 : Int32 → Int32 → gx_R → Option (Int32 × gx_R)) (a1 : Int32) (a2 : Int32) (a4 : Int32) (σ : gx_R) : Option (Int32 × gx_R) :=
  if a4 = 0 then
    some (a2, σ)
  else
    K14 a1 (a2 + 1) σ
noncomputable def Md_played_14_B (K14 : Int32 → Int32 → gx_R → Option (Int32 × gx_R)) (a1 : Int32) (a2 : Int32) (σ : gx_R) : Option (Int32 × gx_R) :=
  z_ck (z_ix a1 4) (
  if (σ 113 a1.toNatClampNeg) ≤ a2 then
    some ((-1 : Int32), σ)
  else
    z_ck (z_ix (((24 : Int32) * a1) + a2) 96) (
    if (σ 114 ((((24 : Int32) * a1) + a2).toNatClampNeg)) = (4 : Int32) then
      z_ck (z_ix (((24 : Int32) * a1) + a2) 96) (
      z_ck (z_ix (((24 : Int32) * a1) + a2) 96) (
      z_bd (Md_wake (σ 116 ((((24 : Int32) * a1) + a2).toNatClampNeg)) (σ 117 ((((24 : Int32) * a1) + a2).toNatClampNeg)) σ) (fun r11 σ12 =>
      Md_played_107 K14 a1 a2 r11 σ12)))
    else
    if (σ 114 ((((24 : Int32) * a1) + a2).toNatClampNeg)) = (5 : Int32) then
      z_ck (z_ix (((24 : Int32) * a1) + a2) 96) (
      z_ck (z_ix (((24 : Int32) * a1) + a2) 96) (
      z_bd (Md_sleep (σ 116 ((((24 : Int32) * a1) + a2).toNatClampNeg)) (σ 117 ((((24 : Int32) * a1) + a2).toNatClampNeg)) σ) (fun r17 σ18 =>
      Md_played_107 K14 a1 a2 r17 σ18)))
    else
    if (σ 114 ((((24 : Int32) * a1) + a2).toNatClampNeg)) = (6 : Int32) then
      z_ck (z_ix (((24 : Int32) * a1) + a2) 96) (
      z_bd (Md_idle (σ 116 ((((24 : Int32) * a1) + a2).toNatClampNeg)) σ) (fun r22 σ23 =>
      Md_played_107 K14 a1 a2 r22 σ23))
    else
    if (σ 114 ((((24 : Int32) * a1) + a2).toNatClampNeg)) = (7 : Int32) then
      z_ck (z_ix (((24 : Int32) * a1) + a2) 96) (
      z_bd (Md_call (σ 116 ((((24 : Int32) * a1) + a2).toNatClampNeg)) σ) (fun r27 σ28 =>
      if r27 = (-1 : Int32) then
        Md_played_76 (Md_played_107 K14) a1 a2 (0 : Int32) σ28
      else
        Md_played_76 (Md_played_107 K14) a1 a2 (1 : Int32) σ28))
    else
    if (σ 114 ((((24 : Int32) * a1) + a2).toNatClampNeg)) = (8 : Int32) then
      z_ck (z_ix (((24 : Int32) * a1) + a2) 96) (
      z_ck (z_ix (((24 : Int32) * a1) + a2) 96) (
      z_ck (z_ix (((24 : Int32) * a1) + a2) 96) (
      z_bd (Md_repay (σ 116 ((((24 : Int32) * a1) + a2).toNatClampNeg)) (σ 117 ((((24 : Int32) * a1) + a2).toNatClampNeg)) (σ 118 ((((24 : Int32) * a1) + a2).toNatClampNeg)) σ) (fun r35 σ36 =>
      if r35 = (-1 : Int32) then
        Md_played_97 (Md_played_107 K14) a1 a2 (0 : Int32) σ36
      else
        Md_played_97 (Md_played_107 K14) a1 a2 (1 : Int32) σ36))))
    else
    if (σ 114 ((((24 : Int32) * a1) + a2).toNatClampNeg)) = (9 : Int32) then
      z_ck (z_ix (((24 : Int32) * a1) + a2) 96) (
      z_bd (Md_hours (σ 116 ((((24 : Int32) * a1) + a2).toNatClampNeg)) σ) (fun r41 σ42 =>
      Md_played_107 K14 a1 a2 r41 σ42))
    else
      Md_played_107 K14 a1 a2 (1 : Int32) σ))
noncomputable def Md_played_14 : Nat → Int32 → Int32 → gx_R → Option (Int32 × gx_R)
  | 0, _, _, _ => none
  | n + 1, a1, a2, σ => Md_played_14_B (Md_played_14 n) a1 a2 σ
noncomputable def Md_played (a1 : Int32) (σ : gx_R) : Option (Int32 × gx_R) :=
  z_bd (Md_in a1 (0 : Int32) ((σ 110 ((2 : Int32).toNatClampNeg)) - (1 : Int32)) σ) (fun r1 σ2 =>
  if r1 = 0 then
    some ((-2 : Int32), σ2)
  else
    Md_played_14 z_FU a1 (0 : Int32) σ2)
noncomputable def Md_of_17 (a1 : Int32) (a2 : Int32) (s0 : Int32) (σ : gx_R) : Option (Int32 × gx_R) :=
  if a2 = (0 : Int32) then
    z_ck (z_ix ((10 : Int32) + a1) 8880) (
    some ((σ 110 (((10 : Int32) + a1).toNatClampNeg)), σ))
  else
  if a2 = (1 : Int32) then
    z_ck (z_ix ((18 : Int32) + a1) 8880) (
    some ((σ 110 (((18 : Int32) + a1).toNatClampNeg)), σ))
  else
  if a2 = (2 : Int32) then
    z_ck (z_ix a1 8) (
    some ((σ 135 a1.toNatClampNeg), σ))
  else
  if a2 = (3 : Int32) then
    z_ck (z_ix a1 8) (
    some ((σ 136 a1.toNatClampNeg), σ))
  else
  if a2 = (4 : Int32) then
    z_ck (z_ix a1 8) (
    some ((σ 137 a1.toNatClampNeg), σ))
  else
  if a2 = (5 : Int32) then
    z_ck (z_ix a1 8) (
    some ((σ 138 a1.toNatClampNeg), σ))
  else
  if a2 = (6 : Int32) then
    z_ck (z_ix ((26 : Int32) + a1) 8880) (
    some ((σ 110 (((26 : Int32) + a1).toNatClampNeg)), σ))
  else
  if a2 = (7 : Int32) then
    z_ck (z_ix ((34 : Int32) + a1) 8880) (
    some ((σ 110 (((34 : Int32) + a1).toNatClampNeg)), σ))
  else
  if a2 = (8 : Int32) then
    z_bd (Md_soundOf a1 σ) (fun r27 σ28 =>
    some (r27, σ28))
  else
  if a2 = (9 : Int32) then
    if s0 = 0 then
      some ((-1 : Int32), σ)
    else
      z_ck (z_ix a1 8) (
      z_ck (z_ix a1 8) (
      z_bd (Md_burnBy a1 (σ 137 a1.toNatClampNeg) (σ 136 a1.toNatClampNeg) σ) (fun r34 σ35 =>
      some (r34, σ35))))
  else
  if a2 = (10 : Int32) then
    z_ck (z_ix a1 8) (
    if (σ 135 a1.toNatClampNeg) = (2 : Int32) then
      z_ck (z_ix a1 8) (
      z_ck (z_ix a1 8) (
      z_ck (z_ix a1 8) (
      z_bd (Md_worthBy a1 (σ 137 a1.toNatClampNeg) (σ 138 a1.toNatClampNeg) (σ 136 a1.toNatClampNeg) σ) (fun r43 σ44 =>
      some (r43, σ44)))))
    else
      some ((-1 : Int32), σ))
  else
  if a2 = (11 : Int32) then
    if s0 = 0 then
      some ((-1 : Int32), σ)
    else
      z_bd (Md_fuelOf a1 (0 : Int32) (1 : Int32) σ) (fun r48 σ49 =>
      some (r48, σ49))
  else
    some ((-2 : Int32), σ)
noncomputable def Md_of (a1 : Int32) (a2 : Int32) (σ : gx_R) : Option (Int32 × gx_R) :=
  z_bd (Md_isPerson a1 σ) (fun r1 σ2 =>
  if r1 = 0 then
    some ((-2 : Int32), σ2)
  else
    z_bd (Md_laysNow σ2) (fun _ σ6 =>
    z_ck (z_ix a1 8) (
    if (σ6 135 a1.toNatClampNeg) = (1 : Int32) then
      Md_of_17 a1 a2 (1 : Int32) σ6
    else
      Md_of_17 a1 a2 (0 : Int32) σ6)))
noncomputable def Md_ofWork (a1 : Int32) (a2 : Int32) (σ : gx_R) : Option (Int32 × gx_R) :=
  z_bd (Md_isWork a1 σ) (fun r1 σ2 =>
  if r1 = 0 then
    some ((-1 : Int32), σ2)
  else
    if a2 = 0 then
      z_ck (z_ix ((42 : Int32) + a1) 8880) (
      some ((σ2 110 (((42 : Int32) + a1).toNatClampNeg)), σ2))
    else
      if a2 = (1 : Int32) then
        z_ck (z_ix ((48 : Int32) + a1) 8880) (
        some ((σ2 110 (((48 : Int32) + a1).toNatClampNeg)), σ2))
      else
        if a2 = (2 : Int32) then
          z_ck (z_ix ((92 : Int32) + a1) 8880) (
          some ((σ2 110 (((92 : Int32) + a1).toNatClampNeg)), σ2))
        else
          some ((-1 : Int32), σ2))
noncomputable def Md_owes (a1 : Int32) (a2 : Int32) (σ : gx_R) : Option (Int32 × gx_R) :=
  z_bd (Md_isPerson a1 σ) (fun r1 σ2 =>
  if r1 = 0 then
    some ((-1 : Int32), σ2)
  else
    z_bd (Md_isPerson a2 σ2) (fun r5 σ6 =>
    if r5 = 0 then
      some ((-1 : Int32), σ6)
    else
      z_ck (z_ix (((98 : Int32) + ((8 : Int32) * a1)) + a2) 8880) (
      some ((σ6 110 ((((98 : Int32) + ((8 : Int32) * a1)) + a2).toNatClampNeg)), σ6))))
noncomputable def Md_isKept (a1 : Int32) (σ : gx_R) : Option (Int32 × gx_R) :=
  z_bd (Md_in a1 (0 : Int32) ((σ 110 ((162 : Int32).toNatClampNeg)) - (1 : Int32)) σ) (fun r1 σ2 =>
  if r1 = 0 then
    some ((0 : Int32), σ2)
  else
    if a1 < ((σ2 110 ((162 : Int32).toNatClampNeg)) - (60 : Int32)) then
      some ((0 : Int32), σ2)
    else
      some ((1 : Int32), σ2))
noncomputable def Md_kept (a1 : Int32) (a2 : Int32) (σ : gx_R) : Option (Int32 × gx_R) :=
  z_bd (Md_isKept a1 σ) (fun r1 σ2 =>
  if r1 = 0 then
    some ((-1 : Int32), σ2)
  else
    z_bd (Md_in a2 (0 : Int32) (2 : Int32) σ2) (fun r5 σ6 =>
    if r5 = 0 then
      some ((-1 : Int32), σ6)
    else
      z_ck (z_ix (((164 : Int32) + ((3 : Int32) * (a1 - a1 / (60 : Int32) * (60 : Int32)))) + a2) 8880) (
      some ((σ6 110 ((((164 : Int32) + ((3 : Int32) * (a1 - a1 / (60 : Int32) * (60 : Int32)))) + a2).toNatClampNeg)), σ6))))
noncomputable def Md_foretoldDone_23 (a2 : Int32) (σ : gx_R) : Option (Int32 × gx_R) :=
  z_ck (z_ix a2 6) (
  some ((σ 139 a2.toNatClampNeg), σ))
noncomputable def Md_foretoldDone_15_B (K15 : Int32 → Int32 → Int32 → gx_R → Option (Int32 × gx_R)) (a1 : Int32) (a2 : Int32) (a3 : Int32) (σ : gx_R) : Option (Int32 × gx_R) :=
  if a1 ≤ a3 then
    Md_foretoldDone_23 a2 σ
  else
    z_bd (Md_hourGoes σ) (fun r13 σ14 =>
    K15 a1 a2 (a3 + 1) σ14)
noncomputable def Md_foretoldDone_15 : Nat → Int32 → Int32 → Int32 → gx_R → Option (Int32 × gx_R)
  | 0, _, _, _, _ => none
  | n + 1, a1, a2, a3, σ => Md_foretoldDone_15_B (Md_foretoldDone_15 n) a1 a2 a3 σ
noncomputable def Md_foretoldDone (a1 : Int32) (a2 : Int32) (σ : gx_R) : Option (Int32 × gx_R) :=
  z_bd (Md_in a1 (1 : Int32) (60 : Int32) σ) (fun r1 σ2 =>
  if r1 = 0 then
    some ((-1 : Int32), σ2)
  else
    z_bd (Md_isWork a2 σ2) (fun r5 σ6 =>
    if r5 = 0 then
      some ((-1 : Int32), σ6)
    else
      z_bd (Md_laysNow σ6) (fun _ σ10 =>
      Md_foretoldDone_15 z_FU a1 a2 (0 : Int32) σ10)))
noncomputable def Md_foretoldStop_15_B (K15 : Int32 → Int32 → Int32 → gx_R → Option (Int32 × gx_R)) (a1 : Int32) (a2 : Int32) (a3 : Int32) (σ : gx_R) : Option (Int32 × gx_R) :=
  if a1 < a3 then
    some ((-1 : Int32), σ)
  else
    z_bd (Md_hourGoes σ) (fun r13 σ14 =>
    z_bd (Md_has (σ14 109 51) a2 σ14) (fun r16 σ17 =>
    if r16 = 0 then
      K15 a1 a2 (a3 + 1) σ17
    else
      some (a3, σ17)))
noncomputable def Md_foretoldStop_15 : Nat → Int32 → Int32 → Int32 → gx_R → Option (Int32 × gx_R)
  | 0, _, _, _, _ => none
  | n + 1, a1, a2, a3, σ => Md_foretoldStop_15_B (Md_foretoldStop_15 n) a1 a2 a3 σ
noncomputable def Md_foretoldStop (a1 : Int32) (a2 : Int32) (σ : gx_R) : Option (Int32 × gx_R) :=
  z_bd (Md_in a1 (1 : Int32) (60 : Int32) σ) (fun r1 σ2 =>
  if r1 = 0 then
    some ((-1 : Int32), σ2)
  else
    z_bd (Md_isPerson a2 σ2) (fun r5 σ6 =>
    if r5 = 0 then
      some ((-1 : Int32), σ6)
    else
      z_bd (Md_laysNow σ6) (fun _ σ10 =>
      Md_foretoldStop_15 z_FU a1 a2 (1 : Int32) σ10)))
noncomputable def Md_laysMatch_158 (K94 : Int32 → Int32 → gx_R → Option (Int32 × gx_R)) (a4 : Int32) (a5 : Int32) (s1 : Int32) (s2 : Int32) (σ : gx_R) : Option (Int32 × gx_R) :=
  z_ck (z_ix s1 64) (
  K94 a4 (a5 + 1) (gx_up σ 144 s1.toNatClampNeg s2))
noncomputable def Md_laysMatch_136 (K94 : Int32 → Int32 → gx_R → Option (Int32 × gx_R)) (a4 : Int32) (a5 : Int32) (a6 : Int32) (s1 : Int32) (s2 : Int32) (σ : gx_R) : Option (Int32 × gx_R) :=
  z_ck (z_ix s1 64) (
  if a6 = 0 then
    Md_laysMatch_158 K94 a4 a5 (((8 : Int32) * a4) + a5) (0 : Int32) (gx_up σ 143 s1.toNatClampNeg s2)
  else
    z_ck (z_ix a4 8) (
    z_ck (z_ix a5 8) (
    z_bd (Md_priceOf ((gx_up σ 143 s1.toNatClampNeg s2) 142 a4.toNatClampNeg) ((gx_up σ 143 s1.toNatClampNeg s2) 141 a5.toNatClampNeg) (gx_up σ 143 s1.toNatClampNeg s2)) (fun r58 σ59 =>
    Md_laysMatch_158 K94 a4 a5 (((8 : Int32) * a4) + a5) r58 σ59))))
noncomputable def Md_laysMatch_161 (K88 : Int32 → gx_R → Option (Int32 × gx_R)) (a4 : Int32) (σ : gx_R) : Option (Int32 × gx_R) :=
  K88 (a4 + 1) σ
noncomputable def Md_laysMatch_84 (K36 : Int32 → Int32 → Int32 → Int32 → gx_R → Option (Int32 × gx_R)) (a1 : Int32) (a2 : Int32) (a3 : Int32) (a4 : Int32) (σ : gx_R) : Option (Int32 × gx_R) :=
  K36 a1 a2 a3 (a4 + 1) σ
noncomputable def Md_laysMatch_94_B (K88 : Int32 → gx_R → Option (Int32 × gx_R)) (K94 : Int32 → Int32 → gx_R → Option (Int32 × gx_R)) (a4 : Int32) (a5 : Int32) (σ : gx_R) : Option (Int32 × gx_R) :=
  if (σ 109 58) ≤ a5 then
    Md_laysMatch_161 K88 a4 σ
  else
    z_ck (z_ix a4 8) (
    z_ck (z_ix ((26 : Int32) + (σ 142 a4.toNatClampNeg)) 8880) (
    z_ck (z_ix a5 8) (
    z_bd (Md_has (σ 110 (((26 : Int32) + (σ 142 a4.toNatClampNeg)).toNatClampNeg)) (σ 141 a5.toNatClampNeg) σ) (fun r45 σ46 =>
    if r45 = 0 then
      Md_laysMatch_136 K94 a4 a5 r45 (((8 : Int32) * a4) + a5) (-1 : Int32) σ46
    else
      z_ck (z_ix a4 8) (
      z_ck (z_ix a5 8) (
      z_bd (Md_worthBy (σ46 142 a4.toNatClampNeg) (0 : Int32) (0 : Int32) (σ46 141 a5.toNatClampNeg) σ46) (fun r51 σ52 =>
      Md_laysMatch_136 K94 a4 a5 r45 (((8 : Int32) * a4) + a5) r51 σ52)))))))
noncomputable def Md_laysMatch_94 (K88 : Int32 → gx_R → Option (Int32 × gx_R)) : Nat → Int32 → Int32 → gx_R → Option (Int32 × gx_R)
  | 0, _, _, _ => none
  | n + 1, a4, a5, σ => Md_laysMatch_94_B K88 (Md_laysMatch_94 K88 n) a4 a5 σ
noncomputable def Md_laysMatch_68 (K36 : Int32 → Int32 → Int32 → Int32 → gx_R → Option (Int32 × gx_R)) (a1 : Int32) (a2 : Int32) (a3 : Int32) (a4 : Int32) (σ : gx_R) : Option (Int32 × gx_R) :=
  z_bd (Md_has a3 a4 σ) (fun r35 σ36 =>
  if r35 = 0 then
    Md_laysMatch_84 K36 a1 a2 a3 a4 σ36
  else
    z_ck (z_ix (σ36 109 59) 8) (
    Md_laysMatch_84 K36 a1 a2 a3 a4 (gx_up (gx_up σ36 142 (σ36 109 59).toNatClampNeg a4) 109 59 (((gx_up σ36 142 (σ36 109 59).toNatClampNeg a4) 109 59) + (1 : Int32)))))
noncomputable def Md_laysMatch_88_B (K88 : Int32 → gx_R → Option (Int32 × gx_R)) (a4 : Int32) (σ : gx_R) : Option (Int32 × gx_R) :=
  if (σ 109 59) ≤ a4 then
    some ((1 : Int32), σ)
  else
    Md_laysMatch_94 K88 z_FU a4 (0 : Int32) σ
noncomputable def Md_laysMatch_88 : Nat → Int32 → gx_R → Option (Int32 × gx_R)
  | 0, _, _ => none
  | n + 1, a4, σ => Md_laysMatch_88_B (Md_laysMatch_88 n) a4 σ
noncomputable def Md_laysMatch_86 (σ : gx_R) : Option (Int32 × gx_R) :=
  Md_laysMatch_88 z_FU (0 : Int32) σ
noncomputable def Md_laysMatch_36_B (K36 : Int32 → Int32 → Int32 → Int32 → gx_R → Option (Int32 × gx_R)) (a1 : Int32) (a2 : Int32) (a3 : Int32) (a4 : Int32) (σ : gx_R) : Option (Int32 × gx_R) :=
  if (σ 110 ((0 : Int32).toNatClampNeg)) ≤ a4 then
    Md_laysMatch_86 σ
  else
    z_bd (Md_has a1 a4 σ) (fun r26 σ27 =>
    if r26 = 0 then
      Md_laysMatch_68 K36 a1 a2 a3 a4 σ27
    else
      z_ck (z_ix (σ27 109 58) 8) (
      z_bd (Md_burnBy a4 (0 : Int32) a2 (gx_up σ27 141 (σ27 109 58).toNatClampNeg a4)) (fun r31 σ32 =>
      z_ck (z_ix ((gx_up σ27 141 (σ27 109 58).toNatClampNeg a4) 109 58) 8) (
      Md_laysMatch_68 K36 a1 a2 a3 a4 (gx_up (gx_up σ32 145 ((gx_up σ27 141 (σ27 109 58).toNatClampNeg a4) 109 58).toNatClampNeg r31) 109 58 (((gx_up σ32 145 ((gx_up σ27 141 (σ27 109 58).toNatClampNeg a4) 109 58).toNatClampNeg r31) 109 58) + (1 : Int32)))))))
noncomputable def Md_laysMatch_36 : Nat → Int32 → Int32 → Int32 → Int32 → gx_R → Option (Int32 × gx_R)
  | 0, _, _, _, _, _ => none
  | n + 1, a1, a2, a3, a4, σ => Md_laysMatch_36_B (Md_laysMatch_36 n) a1 a2 a3 a4 σ
noncomputable def Md_laysMatch (a1 : Int32) (a2 : Int32) (a3 : Int32) (σ : gx_R) : Option (Int32 × gx_R) :=
  z_bd (Md_isSet a1 σ) (fun r1 σ2 =>
  if r1 = 0 then
    some ((0 : Int32), σ2)
  else
    z_bd (Md_isSet a3 σ2) (fun r5 σ6 =>
    if r5 = 0 then
      some ((0 : Int32), σ6)
    else
      z_bd (Md_isWork a2 σ6) (fun r9 σ10 =>
      if r9 = 0 then
        some ((0 : Int32), σ10)
      else
        z_bd (Md_many a1 σ10) (fun r13 σ14 =>
        if (4 : Int32) < r13 then
          some ((0 : Int32), σ14)
        else
          z_bd (Md_many a3 σ14) (fun r17 σ18 =>
          if (6 : Int32) < r17 then
            some ((0 : Int32), σ18)
          else
            if (a1 &&& a3) = 0 then
              z_bd (Md_laysNow σ18) (fun _ σ23 =>
              Md_laysMatch_36 z_FU a1 a2 a3 (0 : Int32) (gx_up (gx_up σ23 109 58 (0 : Int32)) 109 59 (0 : Int32)))
            else
              some ((0 : Int32), σ18))))))
noncomputable def Md_laysWay_50 (K53 : Int32 → Int32 → Int32 → gx_R → Option (Int32 × gx_R)) (a2 : Int32) (a4 : Int32) (σ : gx_R) : Option (Int32 × gx_R) :=
  K53 a2 a4 (1 : Int32) σ
noncomputable def Md_laysWay_52 (K53 : Int32 → Int32 → Int32 → gx_R → Option (Int32 × gx_R)) (a2 : Int32) (a4 : Int32) (σ : gx_R) : Option (Int32 × gx_R) :=
  K53 a2 a4 (0 : Int32) σ
noncomputable def Md_laysWay_53 (K9 : Int32 → Int32 → Int32 → gx_R → Option (Int32 × gx_R)) (a2 : Int32) (a4 : Int32) (s0 : Int32) (σ : gx_R) : Option (Int32 × gx_R) :=
  K9 a2 s0 (a4 + (-1)) σ
noncomputable def Md_laysWay_9_B (K9 : Int32 → Int32 → Int32 → gx_R → Option (Int32 × gx_R)) (a2 : Int32) (a3 : Int32) (a4 : Int32) (σ : gx_R) : Option (Int32 × gx_R) :=
  if a4 < 0 then
    z_ck (z_bo a3) (
    some (a3, σ))
  else
    z_ck (z_nzi ((σ 109 58) + (1 : Int32))) (
    z_ck (z_ix a4 8) (
    z_ck (z_nzi (((gx_up σ 146 a4.toNatClampNeg (a2 - a2 / ((σ 109 58) + (1 : Int32)) * ((σ 109 58) + (1 : Int32)))) 109 58) + (1 : Int32))) (
    if a3 = 0 then
      Md_laysWay_52 (Md_laysWay_53 K9) (a2 / (((gx_up σ 146 a4.toNatClampNeg (a2 - a2 / ((σ 109 58) + (1 : Int32)) * ((σ 109 58) + (1 : Int32)))) 109 58) + (1 : Int32))) a4 (gx_up σ 146 a4.toNatClampNeg (a2 - a2 / ((σ 109 58) + (1 : Int32)) * ((σ 109 58) + (1 : Int32))))
    else
      z_ck (z_ix a4 8) (
      if ((gx_up σ 146 a4.toNatClampNeg (a2 - a2 / ((σ 109 58) + (1 : Int32)) * ((σ 109 58) + (1 : Int32)))) 146 a4.toNatClampNeg) = ((gx_up σ 146 a4.toNatClampNeg (a2 - a2 / ((σ 109 58) + (1 : Int32)) * ((σ 109 58) + (1 : Int32)))) 109 58) then
        Md_laysWay_50 (Md_laysWay_53 K9) (a2 / (((gx_up σ 146 a4.toNatClampNeg (a2 - a2 / ((σ 109 58) + (1 : Int32)) * ((σ 109 58) + (1 : Int32)))) 109 58) + (1 : Int32))) a4 (gx_up σ 146 a4.toNatClampNeg (a2 - a2 / ((σ 109 58) + (1 : Int32)) * ((σ 109 58) + (1 : Int32))))
      else
        z_ck (z_ix a4 8) (
        z_ck (z_ix (((8 : Int32) * a4) + ((gx_up σ 146 a4.toNatClampNeg (a2 - a2 / ((σ 109 58) + (1 : Int32)) * ((σ 109 58) + (1 : Int32)))) 146 a4.toNatClampNeg)) 64) (
        if ((gx_up σ 146 a4.toNatClampNeg (a2 - a2 / ((σ 109 58) + (1 : Int32)) * ((σ 109 58) + (1 : Int32)))) 143 ((((8 : Int32) * a4) + ((gx_up σ 146 a4.toNatClampNeg (a2 - a2 / ((σ 109 58) + (1 : Int32)) * ((σ 109 58) + (1 : Int32)))) 146 a4.toNatClampNeg)).toNatClampNeg)) = (-1 : Int32) then
          Md_laysWay_52 (Md_laysWay_53 K9) (a2 / (((gx_up σ 146 a4.toNatClampNeg (a2 - a2 / ((σ 109 58) + (1 : Int32)) * ((σ 109 58) + (1 : Int32)))) 109 58) + (1 : Int32))) a4 (gx_up σ 146 a4.toNatClampNeg (a2 - a2 / ((σ 109 58) + (1 : Int32)) * ((σ 109 58) + (1 : Int32))))
        else
          Md_laysWay_50 (Md_laysWay_53 K9) (a2 / (((gx_up σ 146 a4.toNatClampNeg (a2 - a2 / ((σ 109 58) + (1 : Int32)) * ((σ 109 58) + (1 : Int32)))) 109 58) + (1 : Int32))) a4 (gx_up σ 146 a4.toNatClampNeg (a2 - a2 / ((σ 109 58) + (1 : Int32)) * ((σ 109 58) + (1 : Int32))))))))))
noncomputable def Md_laysWay_9 : Nat → Int32 → Int32 → Int32 → gx_R → Option (Int32 × gx_R)
  | 0, _, _, _, _ => none
  | n + 1, a2, a3, a4, σ => Md_laysWay_9_B (Md_laysWay_9 n) a2 a3 a4 σ
noncomputable def Md_laysWay (a1 : Int32) (σ : gx_R) : Option (Int32 × gx_R) :=
  Md_laysWay_9 z_FU a1 (1 : Int32) ((σ 109 59) - (1 : Int32)) σ
noncomputable def Md_isEnough_31 (K10 : Int32 → Int32 → Int32 → gx_R → Option (Int32 × gx_R)) (a1 : Int32) (a3 : Int32) (s0 : Int32) (s1 : Int32) (σ : gx_R) : Option (Int32 × gx_R) :=
  K10 a1 (s0 + s1) (a3 + 1) σ
noncomputable def Md_isEnough_35 (K2 : Int32 → gx_R → Option (Int32 × gx_R)) (a1 : Int32) (a2 : Int32) (σ : gx_R) : Option (Int32 × gx_R) :=
  z_ck (z_ix a1 8) (
  if (σ 145 a1.toNatClampNeg) ≤ a2 then
    K2 (a1 + 1) σ
  else
    some ((0 : Int32), σ))
noncomputable def Md_isEnough_10_B (K2 : Int32 → gx_R → Option (Int32 × gx_R)) (K10 : Int32 → Int32 → Int32 → gx_R → Option (Int32 × gx_R)) (a1 : Int32) (a2 : Int32) (a3 : Int32) (σ : gx_R) : Option (Int32 × gx_R) :=
  if (σ 109 59) ≤ a3 then
    Md_isEnough_35 K2 a1 a2 σ
  else
    z_ck (z_ix a3 8) (
    if (σ 146 a3.toNatClampNeg) = a1 then
      z_ck (z_ix (((8 : Int32) * a3) + a1) 64) (
      Md_isEnough_31 K10 a1 a3 a2 (σ 143 ((((8 : Int32) * a3) + a1).toNatClampNeg)) σ)
    else
      Md_isEnough_31 K10 a1 a3 a2 (0 : Int32) σ)
noncomputable def Md_isEnough_10 (K2 : Int32 → gx_R → Option (Int32 × gx_R)) : Nat → Int32 → Int32 → Int32 → gx_R → Option (Int32 × gx_R)
  | 0, _, _, _, _ => none
  | n + 1, a1, a2, a3, σ => Md_isEnough_10_B K2 (Md_isEnough_10 K2 n) a1 a2 a3 σ
noncomputable def Md_isEnough_2_B (K2 : Int32 → gx_R → Option (Int32 × gx_R)) (a1 : Int32) (σ : gx_R) : Option (Int32 × gx_R) :=
  if (σ 109 58) ≤ a1 then
    some ((1 : Int32), σ)
  else
    Md_isEnough_10 K2 z_FU a1 (0 : Int32) (0 : Int32) σ
noncomputable def Md_isEnough_2 : Nat → Int32 → gx_R → Option (Int32 × gx_R)
  | 0, _, _ => none
  | n + 1, a1, σ => Md_isEnough_2_B (Md_isEnough_2 n) a1 σ
noncomputable def Md_isEnough (σ : gx_R) : Option (Int32 × gx_R) :=
  Md_isEnough_2 z_FU (0 : Int32) σ
noncomputable def Md_priceNow_29 (K4 : Int32 → Int32 → gx_R → Option (Int32 × gx_R)) (a2 : Int32) (s0 : Int32) (s1 : Int32) (σ : gx_R) : Option (Int32 × gx_R) :=
  K4 (s0 + s1) (a2 + 1) σ
noncomputable def Md_priceNow_4_B (K4 : Int32 → Int32 → gx_R → Option (Int32 × gx_R)) (a1 : Int32) (a2 : Int32) (σ : gx_R) : Option (Int32 × gx_R) :=
  if (σ 109 59) ≤ a2 then
    some (a1, σ)
  else
    z_ck (z_ix a2 8) (
    if (σ 109 58) ≤ (σ 146 a2.toNatClampNeg) then
      Md_priceNow_29 K4 a2 a1 (0 : Int32) σ
    else
      z_ck (z_ix a2 8) (
      z_ck (z_ix (((8 : Int32) * a2) + (σ 146 a2.toNatClampNeg)) 64) (
      Md_priceNow_29 K4 a2 a1 (σ 144 ((((8 : Int32) * a2) + (σ 146 a2.toNatClampNeg)).toNatClampNeg)) σ)))
noncomputable def Md_priceNow_4 : Nat → Int32 → Int32 → gx_R → Option (Int32 × gx_R)
  | 0, _, _, _ => none
  | n + 1, a1, a2, σ => Md_priceNow_4_B (Md_priceNow_4 n) a1 a2 σ
noncomputable def Md_priceNow (σ : gx_R) : Option (Int32 × gx_R) :=
  Md_priceNow_4 z_FU (0 : Int32) (0 : Int32) σ
noncomputable def Md_sleepNow_19 (K4 : Int32 → Int32 → gx_R → Option (Int32 × gx_R)) (a2 : Int32) (s0 : Int32) (s1 : Int32) (σ : gx_R) : Option (Int32 × gx_R) :=
  K4 (s0 + s1) (a2 + 1) σ
noncomputable def Md_sleepNow_4_B (K4 : Int32 → Int32 → gx_R → Option (Int32 × gx_R)) (a1 : Int32) (a2 : Int32) (σ : gx_R) : Option (Int32 × gx_R) :=
  if (σ 109 59) ≤ a2 then
    some (a1, σ)
  else
    z_ck (z_ix a2 8) (
    if (σ 109 58) ≤ (σ 146 a2.toNatClampNeg) then
      Md_sleepNow_19 K4 a2 a1 (0 : Int32) σ
    else
      Md_sleepNow_19 K4 a2 a1 (1 : Int32) σ)
noncomputable def Md_sleepNow_4 : Nat → Int32 → Int32 → gx_R → Option (Int32 × gx_R)
  | 0, _, _, _ => none
  | n + 1, a1, a2, σ => Md_sleepNow_4_B (Md_sleepNow_4 n) a1 a2 σ
noncomputable def Md_sleepNow (σ : gx_R) : Option (Int32 × gx_R) :=
  Md_sleepNow_4 z_FU (0 : Int32) (0 : Int32) σ
noncomputable def Md_match_80_B (K94 : Int32 → Int32 → Int32 → Int32 → Int32 → Int32 → gx_R → Option (Int32 × gx_R)) (K80 : Int32 → Int32 → Int32 → Int32 → Int32 → Int32 → Int32 → gx_R → Option (Int32 × gx_R)) (a4 : Int32) (a5 : Int32) (a6 : Int32) (a7 : Int32) (a8 : Int32) (a9 : Int32) (a12 : Int32) (σ : gx_R) : Option (Int32 × gx_R) :=
  if (σ 109 59) ≤ a12 then
    K94 a4 a5 a6 a7 a8 a9 σ
  else
    z_ck (z_ix a12 8) (
    z_ck (z_ix a12 8) (
    K80 a4 a5 a6 a7 a8 a9 (a12 + 1) (gx_up σ 147 a12.toNatClampNeg (σ 146 a12.toNatClampNeg))))
noncomputable def Md_match_80 (K94 : Int32 → Int32 → Int32 → Int32 → Int32 → Int32 → gx_R → Option (Int32 × gx_R)) : Nat → Int32 → Int32 → Int32 → Int32 → Int32 → Int32 → Int32 → gx_R → Option (Int32 × gx_R)
  | 0, _, _, _, _, _, _, _, _ => none
  | n + 1, a4, a5, a6, a7, a8, a9, a12, σ => Md_match_80_B K94 (Md_match_80 K94 n) a4 a5 a6 a7 a8 a9 a12 σ
noncomputable def Md_match_74 (K94 : Int32 → Int32 → Int32 → Int32 → Int32 → Int32 → gx_R → Option (Int32 × gx_R)) (a4 : Int32) (a5 : Int32) (a6 : Int32) (a9 : Int32) (a10 : Int32) (a11 : Int32) (σ : gx_R) : Option (Int32 × gx_R) :=
  Md_match_80 K94 z_FU a4 a5 a6 a11 a10 a9 (0 : Int32) σ
noncomputable def Md_match_114 (a9 : Int32) (σ : gx_R) : Option (Int32 × gx_R) :=
  z_ck (z_ix a9 8) (
  if (σ 147 a9.toNatClampNeg) = (σ 109 58) then
    some ((8 : Int32), σ)
  else
    z_ck (z_ix a9 8) (
    z_ck (z_ix (σ 147 a9.toNatClampNeg) 8) (
    some ((σ 141 ((σ 147 a9.toNatClampNeg).toNatClampNeg)), σ))))
noncomputable def Md_match_61 (K94 : Int32 → Int32 → Int32 → Int32 → Int32 → Int32 → gx_R → Option (Int32 × gx_R)) (a4 : Int32) (a5 : Int32) (a6 : Int32) (a7 : Int32) (a8 : Int32) (a9 : Int32) (a10 : Int32) (s0 : Int32) (σ : gx_R) : Option (Int32 × gx_R) :=
  if a7 = (-1 : Int32) then
    Md_match_74 K94 a4 a5 a6 a9 a10 s0 σ
  else
    if s0 < a7 then
      Md_match_74 K94 a4 a5 a6 a9 a10 s0 σ
    else
      if s0 = a7 then
        if a8 ≤ a10 then
          K94 a4 a5 a6 a7 a8 a9 σ
        else
          Md_match_74 K94 a4 a5 a6 a9 a10 s0 σ
      else
        K94 a4 a5 a6 a7 a8 a9 σ
noncomputable def Md_match_106_B (K106 : Int32 → Int32 → gx_R → Option (Int32 × gx_R)) (a5 : Int32) (a9 : Int32) (σ : gx_R) : Option (Int32 × gx_R) :=
  z_ck (z_ix a9 8) (
  if (σ 142 a9.toNatClampNeg) = a5 then
    Md_match_114 a9 σ
  else
    K106 a5 (a9 + 1) σ)
noncomputable def Md_match_106 : Nat → Int32 → Int32 → gx_R → Option (Int32 × gx_R)
  | 0, _, _, _ => none
  | n + 1, a5, a9, σ => Md_match_106_B (Md_match_106 n) a5 a9 σ
noncomputable def Md_match_94 (K42 : Int32 → Int32 → Int32 → Int32 → Int32 → Int32 → gx_R → Option (Int32 × gx_R)) (a4 : Int32) (a5 : Int32) (a6 : Int32) (a7 : Int32) (a8 : Int32) (a9 : Int32) (σ : gx_R) : Option (Int32 × gx_R) :=
  K42 a4 a5 a6 a7 a8 (a9 + 1) σ
noncomputable def Md_match_96 (a5 : Int32) (a7 : Int32) (σ : gx_R) : Option (Int32 × gx_R) :=
  if a7 = (-1 : Int32) then
    some (a7, σ)
  else
    if a5 = (-1 : Int32) then
      some (a7, σ)
    else
      Md_match_106 z_FU a5 (0 : Int32) σ
noncomputable def Md_match_42_B (K42 : Int32 → Int32 → Int32 → Int32 → Int32 → Int32 → gx_R → Option (Int32 × gx_R)) (a4 : Int32) (a5 : Int32) (a6 : Int32) (a7 : Int32) (a8 : Int32) (a9 : Int32) (σ : gx_R) : Option (Int32 × gx_R) :=
  if a6 ≤ a9 then
    Md_match_96 a5 a7 σ
  else
    z_bd (Md_laysWay a9 σ) (fun r16 σ17 =>
    if r16 = 0 then
      Md_match_94 K42 a4 a5 a6 a7 a8 a9 σ17
    else
      z_bd (Md_isEnough σ17) (fun r20 σ21 =>
      if r20 = 0 then
        Md_match_94 K42 a4 a5 a6 a7 a8 a9 σ21
      else
        z_bd (Md_sleepNow σ21) (fun r24 σ25 =>
        if a4 = 0 then
          Md_match_61 (Md_match_94 K42) a4 a5 a6 a7 a8 a9 r24 r24 σ25
        else
          z_bd (Md_priceNow σ25) (fun r28 σ29 =>
          Md_match_61 (Md_match_94 K42) a4 a5 a6 a7 a8 a9 r24 r28 σ29))))
noncomputable def Md_match_42 : Nat → Int32 → Int32 → Int32 → Int32 → Int32 → Int32 → gx_R → Option (Int32 × gx_R)
  | 0, _, _, _, _, _, _, _ => none
  | n + 1, a4, a5, a6, a7, a8, a9, σ => Md_match_42_B (Md_match_42 n) a4 a5 a6 a7 a8 a9 σ
noncomputable def Md_match_36 (a4 : Int32) (a5 : Int32) (a6 : Int32) (σ : gx_R) : Option (Int32 × gx_R) :=
  Md_match_42 z_FU a4 a5 a6 (-1 : Int32) (0 : Int32) (0 : Int32) σ
noncomputable def Md_match_23_B (K23 : Int32 → Int32 → Int32 → Int32 → gx_R → Option (Int32 × gx_R)) (a4 : Int32) (a5 : Int32) (a6 : Int32) (a7 : Int32) (σ : gx_R) : Option (Int32 × gx_R) :=
  if (σ 109 59) ≤ a7 then
    Md_match_36 a4 a5 a6 σ
  else
    K23 a4 a5 (a6 * ((σ 109 58) + (1 : Int32))) (a7 + 1) σ
noncomputable def Md_match_23 : Nat → Int32 → Int32 → Int32 → Int32 → gx_R → Option (Int32 × gx_R)
  | 0, _, _, _, _, _ => none
  | n + 1, a4, a5, a6, a7, σ => Md_match_23_B (Md_match_23 n) a4 a5 a6 a7 σ
noncomputable def Md_match_19 (a4 : Int32) (a5 : Int32) (σ : gx_R) : Option (Int32 × gx_R) :=
  Md_match_23 z_FU a4 a5 (1 : Int32) (0 : Int32) σ
noncomputable def Md_match (a1 : Int32) (a2 : Int32) (a3 : Int32) (a4 : Int32) (a5 : Int32) (σ : gx_R) : Option (Int32 × gx_R) :=
  z_bd (Md_laysMatch a1 a2 a3 σ) (fun r1 σ2 =>
  if r1 = 0 then
    some ((-1 : Int32), σ2)
  else
    if a5 = (-1 : Int32) then
      Md_match_19 a4 a5 σ2
    else
      z_bd (Md_isPerson a5 σ2) (fun r6 σ7 =>
      if r6 = 0 then
        some ((-1 : Int32), σ7)
      else
        z_bd (Md_has a3 a5 σ7) (fun r10 σ11 =>
        if r10 = 0 then
          some ((-1 : Int32), σ11)
        else
          Md_match_19 a4 a5 σ11)))
noncomputable def Md_cannot_60 (K61 : Int32 → Int32 → Int32 → Int32 → Int32 → gx_R → Option (Int32 × gx_R)) (a1 : Int32) (a2 : Int32) (a3 : Int32) (a4 : Int32) (a5 : Int32) (σ : gx_R) : Option (Int32 × gx_R) :=
  K61 a1 a2 a3 a5 a4 σ
noncomputable def Md_cannot_61 (K33 : Int32 → Int32 → Int32 → Int32 → Int32 → gx_R → Option (Int32 × gx_R)) (a1 : Int32) (a2 : Int32) (a3 : Int32) (a5 : Int32) (s0 : Int32) (σ : gx_R) : Option (Int32 × gx_R) :=
  K33 a1 a2 a3 s0 (a5 + 1) σ
noncomputable def Md_cannot_64 (K25 : Int32 → Int32 → Int32 → gx_R → Option (Int32 × gx_R)) (a1 : Int32) (a2 : Int32) (a3 : Int32) (a4 : Int32) (σ : gx_R) : Option (Int32 × gx_R) :=
  K25 a1 (a2 - a4) (a3 + 1) σ
noncomputable def Md_cannot_33_B (K25 : Int32 → Int32 → Int32 → gx_R → Option (Int32 × gx_R)) (K33 : Int32 → Int32 → Int32 → Int32 → Int32 → gx_R → Option (Int32 × gx_R)) (a1 : Int32) (a2 : Int32) (a3 : Int32) (a4 : Int32) (a5 : Int32) (σ : gx_R) : Option (Int32 × gx_R) :=
  if (σ 109 58) ≤ a5 then
    Md_cannot_64 K25 a1 a2 a3 a4 σ
  else
    z_bd (Md_has a1 a5 σ) (fun r9 σ10 =>
    if r9 = 0 then
      Md_cannot_60 (Md_cannot_61 K33) a1 a2 a3 a4 a5 σ10
    else
      z_ck (z_ix (((8 : Int32) * a3) + a5) 64) (
      if (σ10 143 ((((8 : Int32) * a3) + a5).toNatClampNeg)) ≤ a4 then
        Md_cannot_60 (Md_cannot_61 K33) a1 a2 a3 a4 a5 σ10
      else
        z_ck (z_ix (((8 : Int32) * a3) + a5) 64) (
        Md_cannot_61 K33 a1 a2 a3 a5 (σ10 143 ((((8 : Int32) * a3) + a5).toNatClampNeg)) σ10)))
noncomputable def Md_cannot_33 (K25 : Int32 → Int32 → Int32 → gx_R → Option (Int32 × gx_R)) : Nat → Int32 → Int32 → Int32 → Int32 → Int32 → gx_R → Option (Int32 × gx_R)
  | 0, _, _, _, _, _, _ => none
  | n + 1, a1, a2, a3, a4, a5, σ => Md_cannot_33_B K25 (Md_cannot_33 K25 n) a1 a2 a3 a4 a5 σ
noncomputable def Md_cannot_70 (a2 : Int32) (σ : gx_R) : Option (Int32 × gx_R) :=
  if a2 ≤ 0 then
    some ((0 : Int32), σ)
  else
    some ((1 : Int32), σ)
noncomputable def Md_cannot_19 (K4 : Int32 → Int32 → Int32 → gx_R → Option (Int32 × gx_R)) (a1 : Int32) (a3 : Int32) (s0 : Int32) (s1 : Int32) (σ : gx_R) : Option (Int32 × gx_R) :=
  K4 a1 (s0 + s1) (a3 + 1) σ
noncomputable def Md_cannot_25_B (K25 : Int32 → Int32 → Int32 → gx_R → Option (Int32 × gx_R)) (a1 : Int32) (a2 : Int32) (a3 : Int32) (σ : gx_R) : Option (Int32 × gx_R) :=
  if (σ 109 59) ≤ a3 then
    Md_cannot_70 a2 σ
  else
    Md_cannot_33 K25 z_FU a1 a2 a3 (0 : Int32) (0 : Int32) σ
noncomputable def Md_cannot_25 : Nat → Int32 → Int32 → Int32 → gx_R → Option (Int32 × gx_R)
  | 0, _, _, _, _ => none
  | n + 1, a1, a2, a3, σ => Md_cannot_25_B (Md_cannot_25 n) a1 a2 a3 σ
noncomputable def Md_cannot_23 (a1 : Int32) (a2 : Int32) (σ : gx_R) : Option (Int32 × gx_R) :=
  Md_cannot_25 z_FU a1 a2 (0 : Int32) σ
noncomputable def Md_cannot_4_B (K4 : Int32 → Int32 → Int32 → gx_R → Option (Int32 × gx_R)) (a1 : Int32) (a2 : Int32) (a3 : Int32) (σ : gx_R) : Option (Int32 × gx_R) :=
  if (σ 109 58) ≤ a3 then
    Md_cannot_23 a1 a2 σ
  else
    z_bd (Md_has a1 a3 σ) (fun r2 σ3 =>
    if r2 = 0 then
      Md_cannot_19 K4 a1 a3 a2 (0 : Int32) σ3
    else
      z_ck (z_ix a3 8) (
      Md_cannot_19 K4 a1 a3 a2 (σ3 145 a3.toNatClampNeg) σ3))
noncomputable def Md_cannot_4 : Nat → Int32 → Int32 → Int32 → gx_R → Option (Int32 × gx_R)
  | 0, _, _, _, _ => none
  | n + 1, a1, a2, a3, σ => Md_cannot_4_B (Md_cannot_4 n) a1 a2 a3 σ
noncomputable def Md_cannot (a1 : Int32) (σ : gx_R) : Option (Int32 × gx_R) :=
  Md_cannot_4 z_FU a1 (0 : Int32) (0 : Int32) σ
noncomputable def Md_whoCannot_41 (K24 : Int32 → Int32 → Int32 → gx_R → Option (Int32 × gx_R)) (a4 : Int32) (a6 : Int32) (s0 : Int32) (s1 : Int32) (σ : gx_R) : Option (Int32 × gx_R) :=
  K24 a4 (s0 ||| s1) (a6 + 1) σ
noncomputable def Md_whoCannot_24_B (K24 : Int32 → Int32 → Int32 → gx_R → Option (Int32 × gx_R)) (a4 : Int32) (a5 : Int32) (a6 : Int32) (σ : gx_R) : Option (Int32 × gx_R) :=
  if (σ 109 58) ≤ a6 then
    some (a5, σ)
  else
    z_bd (Md_has a4 a6 σ) (fun r11 σ12 =>
    if r11 = 0 then
      Md_whoCannot_41 K24 a4 a6 a5 (0 : Int32) σ12
    else
      z_ck (z_ix a6 8) (
      Md_whoCannot_41 K24 a4 a6 a5 ((1 : Int32) <<< ((σ12 141 a6.toNatClampNeg) &&& 31)) σ12))
noncomputable def Md_whoCannot_24 : Nat → Int32 → Int32 → Int32 → gx_R → Option (Int32 × gx_R)
  | 0, _, _, _, _ => none
  | n + 1, a4, a5, a6, σ => Md_whoCannot_24_B (Md_whoCannot_24 n) a4 a5 a6 σ
noncomputable def Md_whoCannot_20 (a4 : Int32) (σ : gx_R) : Option (Int32 × gx_R) :=
  Md_whoCannot_24 z_FU a4 (0 : Int32) (0 : Int32) σ
noncomputable def Md_whoCannot_10_B (K10 : Int32 → gx_R → Option (Int32 × gx_R)) (a4 : Int32) (σ : gx_R) : Option (Int32 × gx_R) :=
  if ((1 : Int32) <<< ((σ 109 58) &&& 31)) ≤ a4 then
    some ((-1 : Int32), σ)
  else
    z_bd (Md_cannot a4 σ) (fun r6 σ7 =>
    if r6 = 0 then
      K10 (a4 + 1) σ7
    else
      Md_whoCannot_20 a4 σ7)
noncomputable def Md_whoCannot_10 : Nat → Int32 → gx_R → Option (Int32 × gx_R)
  | 0, _, _ => none
  | n + 1, a4, σ => Md_whoCannot_10_B (Md_whoCannot_10 n) a4 σ
noncomputable def Md_whoCannot (a1 : Int32) (a2 : Int32) (a3 : Int32) (σ : gx_R) : Option (Int32 × gx_R) :=
  z_bd (Md_laysMatch a1 a2 a3 σ) (fun r1 σ2 =>
  if r1 = 0 then
    some ((-1 : Int32), σ2)
  else
    Md_whoCannot_10 z_FU (1 : Int32) σ2)
noncomputable def Md_behind_74 (K75 : Int32 → Int32 → Int32 → Int32 → Int32 → Int32 → gx_R → Option (Int32 × gx_R)) (a2 : Int32) (a3 : Int32) (a4 : Int32) (a5 : Int32) (a7 : Int32) (σ : gx_R) : Option (Int32 × gx_R) :=
  K75 a2 a3 a4 a5 a7 (0 : Int32) σ
noncomputable def Md_behind_94 (K39 : Int32 → Int32 → Int32 → Int32 → gx_R → Option (Int32 × gx_R)) (a2 : Int32) (a3 : Int32) (a4 : Int32) (a5 : Int32) (σ : gx_R) : Option (Int32 × gx_R) :=
  K39 a2 a3 a4 (a5 + 1) σ
noncomputable def Md_behind_72 (K75 : Int32 → Int32 → Int32 → Int32 → Int32 → Int32 → gx_R → Option (Int32 × gx_R)) (a2 : Int32) (a3 : Int32) (a4 : Int32) (a5 : Int32) (a7 : Int32) (σ : gx_R) : Option (Int32 × gx_R) :=
  K75 a2 a3 a4 a5 a7 (1 : Int32) σ
noncomputable def Md_behind_75 (K49 : Int32 → Int32 → Int32 → Int32 → Int32 → Int32 → gx_R → Option (Int32 × gx_R)) (a2 : Int32) (a3 : Int32) (a4 : Int32) (a5 : Int32) (a7 : Int32) (s0 : Int32) (σ : gx_R) : Option (Int32 × gx_R) :=
  K49 a2 a3 a4 a5 s0 (a7 + 1) σ
noncomputable def Md_behind_78 (K39 : Int32 → Int32 → Int32 → Int32 → gx_R → Option (Int32 × gx_R)) (a2 : Int32) (a3 : Int32) (a4 : Int32) (a5 : Int32) (a6 : Int32) (σ : gx_R) : Option (Int32 × gx_R) :=
  z_ck (z_ix a5 8) (
  if (σ 148 a5.toNatClampNeg) = (-1 : Int32) then
    if a6 = 0 then
      Md_behind_94 K39 a2 a3 a4 a5 σ
    else
      z_ck (z_ix a5 8) (
      Md_behind_94 K39 a2 (a3 + 1) a4 a5 (gx_up σ 148 a5.toNatClampNeg (a4 + (1 : Int32))))
  else
    Md_behind_94 K39 a2 a3 a4 a5 σ)
noncomputable def Md_behind_49_B (K39 : Int32 → Int32 → Int32 → Int32 → gx_R → Option (Int32 × gx_R)) (K49 : Int32 → Int32 → Int32 → Int32 → Int32 → Int32 → gx_R → Option (Int32 × gx_R)) (a2 : Int32) (a3 : Int32) (a4 : Int32) (a5 : Int32) (a6 : Int32) (a7 : Int32) (σ : gx_R) : Option (Int32 × gx_R) :=
  if (σ 110 ((0 : Int32).toNatClampNeg)) ≤ a7 then
    Md_behind_78 K39 a2 a3 a4 a5 a6 σ
  else
    if a6 = 0 then
      z_ck (z_ix a7 8) (
      if (σ 148 a7.toNatClampNeg) = a4 then
        z_ck (z_ix ((26 : Int32) + a5) 8880) (
        z_bd (Md_has (σ 110 (((26 : Int32) + a5).toNatClampNeg)) a7 σ) (fun r20 σ21 =>
        if r20 = 0 then
          Md_behind_74 (Md_behind_75 K49) a2 a3 a4 a5 a7 σ21
        else
          Md_behind_72 (Md_behind_75 K49) a2 a3 a4 a5 a7 σ21))
      else
        Md_behind_74 (Md_behind_75 K49) a2 a3 a4 a5 a7 σ)
    else
      Md_behind_72 (Md_behind_75 K49) a2 a3 a4 a5 a7 σ
noncomputable def Md_behind_49 (K39 : Int32 → Int32 → Int32 → Int32 → gx_R → Option (Int32 × gx_R)) : Nat → Int32 → Int32 → Int32 → Int32 → Int32 → Int32 → gx_R → Option (Int32 × gx_R)
  | 0, _, _, _, _, _, _, _ => none
  | n + 1, a2, a3, a4, a5, a6, a7, σ => Md_behind_49_B K39 (Md_behind_49 K39 n) a2 a3 a4 a5 a6 a7 σ
noncomputable def Md_behind_96 (K34 : Int32 → Int32 → Int32 → gx_R → Option (Int32 × gx_R)) (a2 : Int32) (a3 : Int32) (a4 : Int32) (σ : gx_R) : Option (Int32 × gx_R) :=
  K34 a2 a3 (a4 + 1) σ
noncomputable def Md_behind_39_B (K34 : Int32 → Int32 → Int32 → gx_R → Option (Int32 × gx_R)) (K39 : Int32 → Int32 → Int32 → Int32 → gx_R → Option (Int32 × gx_R)) (a2 : Int32) (a3 : Int32) (a4 : Int32) (a5 : Int32) (σ : gx_R) : Option (Int32 × gx_R) :=
  if (σ 110 ((0 : Int32).toNatClampNeg)) ≤ a5 then
    Md_behind_96 K34 a2 a3 a4 σ
  else
    Md_behind_49 K39 z_FU a2 a3 a4 a5 (0 : Int32) (0 : Int32) σ
noncomputable def Md_behind_39 (K34 : Int32 → Int32 → Int32 → gx_R → Option (Int32 × gx_R)) : Nat → Int32 → Int32 → Int32 → Int32 → gx_R → Option (Int32 × gx_R)
  | 0, _, _, _, _, _ => none
  | n + 1, a2, a3, a4, a5, σ => Md_behind_39_B K34 (Md_behind_39 K34 n) a2 a3 a4 a5 σ
noncomputable def Md_behind_98 (a2 : Int32) (a3 : Int32) (σ : gx_R) : Option (Int32 × gx_R) :=
  if a2 = (-1 : Int32) then
    some (a3, σ)
  else
    z_ck (z_ix a2 8) (
    some ((σ 148 a2.toNatClampNeg), σ))
noncomputable def Md_behind_27 (K15 : Int32 → Int32 → Int32 → gx_R → Option (Int32 × gx_R)) (a1 : Int32) (a2 : Int32) (a3 : Int32) (s1 : Int32) (s2 : Int32) (σ : gx_R) : Option (Int32 × gx_R) :=
  z_ck (z_ix s1 8) (
  K15 a1 a2 (a3 + 1) (gx_up σ 148 s1.toNatClampNeg s2))
noncomputable def Md_behind_34_B (K34 : Int32 → Int32 → Int32 → gx_R → Option (Int32 × gx_R)) (a2 : Int32) (a3 : Int32) (a4 : Int32) (σ : gx_R) : Option (Int32 × gx_R) :=
  if (8 : Int32) ≤ a4 then
    Md_behind_98 a2 a3 σ
  else
    Md_behind_39 K34 z_FU a2 a3 a4 (0 : Int32) σ
noncomputable def Md_behind_34 : Nat → Int32 → Int32 → Int32 → gx_R → Option (Int32 × gx_R)
  | 0, _, _, _, _ => none
  | n + 1, a2, a3, a4, σ => Md_behind_34_B (Md_behind_34 n) a2 a3 a4 σ
noncomputable def Md_behind_30 (a2 : Int32) (σ : gx_R) : Option (Int32 × gx_R) :=
  Md_behind_34 z_FU a2 (0 : Int32) (0 : Int32) σ
noncomputable def Md_behind_15_B (K15 : Int32 → Int32 → Int32 → gx_R → Option (Int32 × gx_R)) (a1 : Int32) (a2 : Int32) (a3 : Int32) (σ : gx_R) : Option (Int32 × gx_R) :=
  if (8 : Int32) ≤ a3 then
    Md_behind_30 a2 σ
  else
    if a3 = a1 then
      Md_behind_27 K15 a1 a2 a3 a3 (0 : Int32) σ
    else
      Md_behind_27 K15 a1 a2 a3 a3 (-1 : Int32) σ
noncomputable def Md_behind_15 : Nat → Int32 → Int32 → Int32 → gx_R → Option (Int32 × gx_R)
  | 0, _, _, _, _ => none
  | n + 1, a1, a2, a3, σ => Md_behind_15_B (Md_behind_15 n) a1 a2 a3 σ
noncomputable def Md_behind_13 (a1 : Int32) (a2 : Int32) (σ : gx_R) : Option (Int32 × gx_R) :=
  Md_behind_15 z_FU a1 a2 (0 : Int32) σ
noncomputable def Md_behind (a1 : Int32) (a2 : Int32) (σ : gx_R) : Option (Int32 × gx_R) :=
  z_bd (Md_isPerson a1 σ) (fun r1 σ2 =>
  if r1 = 0 then
    some ((-1 : Int32), σ2)
  else
    if a2 = (-1 : Int32) then
      Md_behind_13 a1 a2 σ2
    else
      z_bd (Md_isPerson a2 σ2) (fun r6 σ7 =>
      if r6 = 0 then
        some ((-1 : Int32), σ7)
      else
        Md_behind_13 a1 a2 σ7))
