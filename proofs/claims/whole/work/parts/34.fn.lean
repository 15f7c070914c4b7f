noncomputable def Md_may (a1 : Int32) (a2 : Int32) (σ : gx_R) : Option (Int32 × gx_R) :=
  z_bd (Md_isPerson a1 σ) (fun r1 σ2 =>
  if r1 = 0 then
    some ((0 : Int32), σ2)
  else
    z_bd (Md_isPerson a2 σ2) (fun r5 σ6 =>
    if r5 = 0 then
      some ((0 : Int32), σ6)
    else
      if a1 = a2 then
        some ((0 : Int32), σ6)
      else
        z_ck (z_ix ((26 : Int32) + a1) 8880) (
        z_bd (Md_has (σ6 110 (((26 : Int32) + a1).toNatClampNeg)) a2 σ6) (fun r11 σ12 =>
        if r11 = 0 then
          z_ck (z_ix ((26 : Int32) + a1) 8880) (
          z_ck (z_ix ((26 : Int32) + a1) 8880) (
          some ((1 : Int32), (gx_up σ12 110 ((26 : Int32) + a1).toNatClampNeg ((σ12 110 (((26 : Int32) + a1).toNatClampNeg)) ||| ((1 : Int32) <<< (a2 &&& 31)))))))
        else
          some ((0 : Int32), σ12)))))
noncomputable def Md_hears (a1 : Int32) (a2 : Int32) (σ : gx_R) : Option (Int32 × gx_R) :=
  z_bd (Md_isPerson a1 σ) (fun r1 σ2 =>
  if r1 = 0 then
    some ((0 : Int32), σ2)
  else
    z_bd (Md_isPerson a2 σ2) (fun r5 σ6 =>
    if r5 = 0 then
      some ((0 : Int32), σ6)
    else
      if a1 = a2 then
        some ((0 : Int32), σ6)
      else
        z_ck (z_ix ((34 : Int32) + a1) 8880) (
        z_bd (Md_has (σ6 110 (((34 : Int32) + a1).toNatClampNeg)) a2 σ6) (fun r11 σ12 =>
        if r11 = 0 then
          z_ck (z_ix ((34 : Int32) + a1) 8880) (
          z_ck (z_ix ((34 : Int32) + a1) 8880) (
          z_ck (z_ix ((34 : Int32) + a2) 8880) (
          z_ck (z_ix ((34 : Int32) + a2) 8880) (
          some ((1 : Int32), (gx_up (gx_up σ12 110 ((34 : Int32) + a1).toNatClampNeg ((σ12 110 (((34 : Int32) + a1).toNatClampNeg)) ||| ((1 : Int32) <<< (a2 &&& 31)))) 110 ((34 : Int32) + a2).toNatClampNeg (((gx_up σ12 110 ((34 : Int32) + a1).toNatClampNeg ((σ12 110 (((34 : Int32) + a1).toNatClampNeg)) ||| ((1 : Int32) <<< (a2 &&& 31)))) 110 (((34 : Int32) + a2).toNatClampNeg)) ||| ((1 : Int32) <<< (a1 &&& 31)))))))))
        else
          some ((0 : Int32), σ12)))))
noncomputable def Md_keepsStep_23 (K28 : gx_R → Option (Unit × gx_R)) (σ : gx_R) : Option (Unit × gx_R) :=
  K28 (gx_up σ 110 (4 : Int32).toNatClampNeg (29 : Int32))
noncomputable def Md_keepsStep_54 (σ : gx_R) : Option (Unit × gx_R) :=
  some ((), (gx_up σ 110 (4 : Int32).toNatClampNeg ((σ 110 ((4 : Int32).toNatClampNeg)) + (1 : Int32))))
noncomputable def Md_keepsStep_8_B (K28 : gx_R → Option (Unit × gx_R)) (K8 : Int32 → gx_R → Option (Unit × gx_R)) (a1 : Int32) (σ : gx_R) : Option (Unit × gx_R) :=
  if (8596 : Int32) ≤ a1 then
    Md_keepsStep_23 K28 σ
  else
    z_ck (z_ix (a1 + (284 : Int32)) 8880) (
    z_ck (z_ix a1 8880) (
    K8 (a1 + 1) (gx_up σ 110 a1.toNatClampNeg (σ 110 ((a1 + (284 : Int32)).toNatClampNeg)))))
noncomputable def Md_keepsStep_8 (K28 : gx_R → Option (Unit × gx_R)) : Nat → Int32 → gx_R → Option (Unit × gx_R)
  | 0, _, _ => none
  | n + 1, a1, σ => Md_keepsStep_8_B K28 (Md_keepsStep_8 K28 n) a1 σ
noncomputable def Md_keepsStep_30_B (K30 : Int32 → gx_R → Option (Unit × gx_R)) (a1 : Int32) (σ : gx_R) : Option (Unit × gx_R) :=
  if (284 : Int32) ≤ a1 then
    Md_keepsStep_54 σ
  else
    z_ck (z_ix ((60 : Int32) + a1) 8880) (
    z_ck (z_ix (((360 : Int32) + ((284 : Int32) * (σ 110 ((4 : Int32).toNatClampNeg)))) + a1) 8880) (
    K30 (a1 + 1) (gx_up σ 110 (((360 : Int32) + ((284 : Int32) * (σ 110 ((4 : Int32).toNatClampNeg)))) + a1).toNatClampNeg (σ 110 (((60 : Int32) + a1).toNatClampNeg)))))
noncomputable def Md_keepsStep_30 : Nat → Int32 → gx_R → Option (Unit × gx_R)
  | 0, _, _ => none
  | n + 1, a1, σ => Md_keepsStep_30_B (Md_keepsStep_30 n) a1 σ
noncomputable def Md_keepsStep_28 (σ : gx_R) : Option (Unit × gx_R) :=
  Md_keepsStep_30 z_FU (0 : Int32) σ
noncomputable def Md_keepsStep (σ : gx_R) : Option (Unit × gx_R) :=
  if (σ 110 ((4 : Int32).toNatClampNeg)) = (30 : Int32) then
    Md_keepsStep_8 (Md_keepsStep_28) z_FU (360 : Int32) σ
  else
    Md_keepsStep_28 σ
noncomputable def Md_undo_41 (σ : gx_R) : Option (Int32 × gx_R) :=
  some ((σ 110 ((4 : Int32).toNatClampNeg)), σ)
noncomputable def Md_undo_17_B (K17 : Int32 → gx_R → Option (Int32 × gx_R)) (a1 : Int32) (σ : gx_R) : Option (Int32 × gx_R) :=
  if (284 : Int32) ≤ a1 then
    Md_undo_41 σ
  else
    z_ck (z_ix (((360 : Int32) + ((284 : Int32) * (σ 110 ((4 : Int32).toNatClampNeg)))) + a1) 8880) (
    z_ck (z_ix ((60 : Int32) + a1) 8880) (
    K17 (a1 + 1) (gx_up σ 110 ((60 : Int32) + a1).toNatClampNeg (σ 110 ((((360 : Int32) + ((284 : Int32) * (σ 110 ((4 : Int32).toNatClampNeg)))) + a1).toNatClampNeg)))))
noncomputable def Md_undo_17 : Nat → Int32 → gx_R → Option (Int32 × gx_R)
  | 0, _, _ => none
  | n + 1, a1, σ => Md_undo_17_B (Md_undo_17 n) a1 σ
noncomputable def Md_undo (σ : gx_R) : Option (Int32 × gx_R) :=
  if (σ 110 ((4 : Int32).toNatClampNeg)) = 0 then
    some ((-1 : Int32), σ)
  else
    Md_undo_17 z_FU (0 : Int32) (gx_up σ 110 (4 : Int32).toNatClampNeg ((σ 110 ((4 : Int32).toNatClampNeg)) - (1 : Int32)))
noncomputable def Md_put_2_B (K2 : Int32 → Int32 → gx_R → Option (Unit × gx_R)) (a1 : Int32) (a2 : Int32) (σ : gx_R) : Option (Unit × gx_R) :=
  if a2 < 0 then
    some ((), σ)
  else
    z_ck (z_ix (σ 109 3) 300) (
    K2 a1 (a2 - (8 : Int32)) (gx_up (gx_up σ 112 (σ 109 3).toNatClampNeg (vp_nar .byte ((a1 >>> (a2 &&& 31)).toInt8.toInt32))) 109 3 (((gx_up σ 112 (σ 109 3).toNatClampNeg (vp_nar .byte ((a1 >>> (a2 &&& 31)).toInt8.toInt32))) 109 3) + (1 : Int32))))
noncomputable def Md_put_2 : Nat → Int32 → Int32 → gx_R → Option (Unit × gx_R)
  | 0, _, _, _ => none
  | n + 1, a1, a2, σ => Md_put_2_B (Md_put_2 n) a1 a2 σ
noncomputable def Md_put (a1 : Int32) (σ : gx_R) : Option (Unit × gx_R) :=
  Md_put_2 z_FU a1 (24 : Int32) σ
noncomputable def Md_feed (a1 : Int32) (a2 : Int32) (a3 : Int32) (a4 : Int32) (a5 : Int32) (σ : gx_R) : Option (Int32 × gx_R) :=
  if ((σ 109 3) + (20 : Int32)) ≤ (300 : Int32) then
    z_bd (Md_put a1 σ) (fun _ σ3 =>
    z_bd (Md_put a2 σ3) (fun _ σ6 =>
    z_bd (Md_put a3 σ6) (fun _ σ9 =>
    z_bd (Md_put a4 σ9) (fun _ σ12 =>
    z_bd (Md_put a5 σ12) (fun _ σ15 =>
    some ((σ15 109 3), σ15))))))
  else
    some ((-1 : Int32), σ)
noncomputable def Md_end (a1 : Int32) (σ : gx_R) : Option (Int32 × gx_R) :=
  z_bd (Md_in a1 (0 : Int32) (σ 109 3) σ) (fun r1 σ2 =>
  if r1 = 0 then
    some ((-1 : Int32), σ2)
  else
    some (a1, (gx_up σ2 109 3 a1)))
noncomputable def Md_isLetter_10 (σ : gx_R) : Option (Int32 × gx_R) :=
  some ((1 : Int32), σ)
noncomputable def Md_isLetter (a0 : Int32) (σ : gx_R) : Option (Int32 × gx_R) :=
  z_bd (Md_in a0 (97 : Int32) (122 : Int32) σ) (fun r1 σ2 =>
  if r1 = 0 then
    z_bd (Md_in a0 (65 : Int32) (90 : Int32) σ2) (fun r5 σ6 =>
    if r5 = 0 then
      some ((0 : Int32), σ6)
    else
      Md_isLetter_10 σ6)
  else
    Md_isLetter_10 σ2)
noncomputable def Md_wordOf (l0 : Int64) (σ : gx_R) : Option (Int32 × gx_R) :=
  if (lg_cmp l0 (935275816 : Int64)) = 0 then
    some ((0 : Int32), σ)
  else
    if (lg_cmp l0 (9133230 : Int64)) = 0 then
      some ((1 : Int32), σ)
    else
      if (lg_cmp l0 (868178852 : Int64)) = 0 then
        some ((2 : Int32), σ)
      else
        if (lg_cmp l0 (818583781 : Int64)) = 0 then
          some ((3 : Int32), σ)
        else
          if (lg_cmp l0 (14555877 : Int64)) = 0 then
            some ((4 : Int32), σ)
          else
            if (lg_cmp l0 (867326320 : Int64)) = 0 then
              some ((5 : Int32), σ)
            else
              if (lg_cmp l0 (10898213 : Int64)) = 0 then
                some ((6 : Int32), σ)
              else
                if (lg_cmp l0 (9313068 : Int64)) = 0 then
                  some ((7 : Int32), σ)
                else
                  if (lg_cmp l0 (848758905 : Int64)) = 0 then
                    some ((8 : Int32), σ)
                  else
                    if (lg_cmp l0 (10681714 : Int64)) = 0 then
                      some ((9 : Int32), σ)
                    else
                      if (lg_cmp l0 (2164 : Int64)) = 0 then
                        some ((10 : Int32), σ)
                      else
                        if (lg_cmp l0 (158706 : Int64)) = 0 then
                          some ((11 : Int32), σ)
                        else
                          if (lg_cmp l0 (3375 : Int64)) = 0 then
                            some ((12 : Int32), σ)
                          else
                            if (lg_cmp l0 (2233 : Int64)) = 0 then
                              some ((13 : Int32), σ)
                            else
                              if (lg_cmp l0 (3058 : Int64)) = 0 then
                                some ((14 : Int32), σ)
                              else
                                if (lg_cmp l0 (138148 : Int64)) = 0 then
                                  some ((15 : Int32), σ)
                                else
                                  if (lg_cmp l0 (191476 : Int64)) = 0 then
                                    some ((16 : Int32), σ)
                                  else
                                    if (lg_cmp l0 (2662 : Int64)) = 0 then
                                      some ((17 : Int32), σ)
                                    else
                                      if (lg_cmp l0 (13797742 : Int64)) = 0 then
                                        some ((18 : Int32), σ)
                                      else
                                        if (lg_cmp l0 (9882853 : Int64)) = 0 then
                                          some ((19 : Int32), σ)
                                        else
                                          if (lg_cmp l0 (154532 : Int64)) = 0 then
                                            some ((20 : Int32), σ)
                                          else
                                            if (lg_cmp l0 (227887 : Int64)) = 0 then
                                              some ((21 : Int32), σ)
                                            else
                                              if (lg_cmp l0 (191479 : Int64)) = 0 then
                                                some ((22 : Int32), σ)
                                              else
                                                if (lg_cmp l0 (3054 : Int64)) = 0 then
                                                  some ((23 : Int32), σ)
                                                else
                                                  if (lg_cmp l0 (613879080 : Int64)) = 0 then
                                                    some ((24 : Int32), σ)
                                                  else
                                                    if (lg_cmp l0 (617240685 : Int64)) = 0 then
                                                      some ((25 : Int32), σ)
                                                    else
                                                      if (lg_cmp l0 (14584813 : Int64)) = 0 then
                                                        some ((26 : Int32), σ)
                                                      else
                                                        if (lg_cmp l0 (13769963 : Int64)) = 0 then
                                                          some ((27 : Int32), σ)
                                                        else
                                                          if (lg_cmp l0 (784243941 : Int64)) = 0 then
                                                            some ((28 : Int32), σ)
                                                          else
                                                            if (lg_cmp l0 (12548452 : Int64)) = 0 then
                                                              some ((29 : Int32), σ)
                                                            else
                                                              some ((-1 : Int32), σ)
noncomputable def Md_next_216 (s1 : Int32) (σ : gx_R) : Option (Unit × gx_R) :=
  some ((), (gx_up (gx_up σ 109 18 s1) 109 15 (((gx_up σ 109 18 s1) 109 15) + (1 : Int32))))
noncomputable def Md_next_153 (K119 : gx_R → Option (Unit × gx_R)) (s1 : Int32) (σ : gx_R) : Option (Unit × gx_R) :=
  K119 (gx_up (gx_up σ 109 18 s1) 109 15 (((gx_up σ 109 18 s1) 109 15) + (1 : Int32)))
noncomputable def Md_next_197 (a1 : Int32) (σ : gx_R) : Option (Unit × gx_R) :=
  if (σ 109 14) ≤ (σ 109 15) then
    some ((), σ)
  else
    z_ck (z_ix (σ 109 15) 300) (
    if (σ 112 ((σ 109 15).toNatClampNeg)) = (61 : Int32) then
      if a1 = (60 : Int32) then
        Md_next_216 (300 : Int32) σ
      else
        Md_next_216 (301 : Int32) σ
    else
      some ((), σ))
noncomputable def Md_next_187 (K190 : Int32 → Int32 → gx_R → Option (Unit × gx_R)) (a1 : Int32) (σ : gx_R) : Option (Unit × gx_R) :=
  K190 a1 (3 : Int32) σ
noncomputable def Md_next_190 (a1 : Int32) (s1 : Int32) (σ : gx_R) : Option (Unit × gx_R) :=
  if a1 = (60 : Int32) then
    Md_next_197 a1 (gx_up σ 109 17 s1)
  else
    if a1 = (62 : Int32) then
      Md_next_197 a1 (gx_up σ 109 17 s1)
    else
      some ((), (gx_up σ 109 17 s1))
noncomputable def Md_next_81 (K52 : Int64 → Int32 → gx_R → Option (Unit × gx_R)) (a4 : Int32) (s0 : Int64) (σ : gx_R) : Option (Unit × gx_R) :=
  K52 s0 (a4 + 1) (gx_up σ 109 15 ((σ 109 15) + (1 : Int32)))
noncomputable def Md_next_106 (s1 : Int32) (σ : gx_R) : Option (Unit × gx_R) :=
  some ((), (gx_up σ 109 17 s1))
noncomputable def Md_next_98 (s1 : Int32) (σ : gx_R) : Option (Unit × gx_R) :=
  if 0 ≤ ((gx_up σ 109 18 s1) 109 18) then
    Md_next_106 (1 : Int32) (gx_up σ 109 18 s1)
  else
    Md_next_106 (4 : Int32) (gx_up σ 109 18 s1)
noncomputable def Md_next_119_B (K119 : gx_R → Option (Unit × gx_R)) (σ : gx_R) : Option (Unit × gx_R) :=
  if (σ 109 14) ≤ (σ 109 15) then
    some ((), σ)
  else
    z_ck (z_ix (σ 109 15) 300) (
    z_bd (Md_in (σ 112 ((σ 109 15).toNatClampNeg)) (48 : Int32) (57 : Int32) σ) (fun r41 σ42 =>
    if r41 = 0 then
      some ((), σ42)
    else
      if (σ42 109 18) ≤ (99999 : Int32) then
        z_ck (z_ix (σ42 109 15) 300) (
        Md_next_153 K119 ((((10 : Int32) * (σ42 109 18)) + (σ42 112 ((σ42 109 15).toNatClampNeg))) - (48 : Int32)) σ42)
      else
        Md_next_153 K119 (σ42 109 18) σ42))
noncomputable def Md_next_119 : Nat → gx_R → Option (Unit × gx_R)
  | 0, _ => none
  | n + 1, σ => Md_next_119_B (Md_next_119 n) σ
noncomputable def Md_next_90 (l2 : Int64) (a4 : Int32) (σ : gx_R) : Option (Unit × gx_R) :=
  if a4 ≤ (7 : Int32) then
    z_bd (Md_wordOf l2 σ) (fun r35 σ36 =>
    Md_next_98 r35 σ36)
  else
    Md_next_98 (-1 : Int32) σ
noncomputable def Md_next_52_B (K52 : Int64 → Int32 → gx_R → Option (Unit × gx_R)) (l2 : Int64) (a4 : Int32) (σ : gx_R) : Option (Unit × gx_R) :=
  if (σ 109 14) ≤ (σ 109 15) then
    Md_next_90 l2 a4 σ
  else
    z_ck (z_ix (σ 109 15) 300) (
    z_bd (Md_isLetter (σ 112 ((σ 109 15).toNatClampNeg)) σ) (fun r28 σ29 =>
    if r28 = 0 then
      Md_next_90 l2 a4 σ29
    else
      if (8 : Int32) ≤ a4 then
        Md_next_81 K52 a4 l2 σ29
      else
        z_ck (z_ix (σ29 109 15) 300) (
        Md_next_81 K52 a4 ((((64 : Int64) * l2) + (σ29 112 ((σ29 109 15).toNatClampNeg)).toInt64) - (64 : Int64)) σ29)))
noncomputable def Md_next_52 : Nat → Int64 → Int32 → gx_R → Option (Unit × gx_R)
  | 0, _, _, _ => none
  | n + 1, l2, a4, σ => Md_next_52_B (Md_next_52 n) l2 a4 σ
noncomputable def Md_next_19 (K0 : gx_R → Option (Unit × gx_R)) (σ : gx_R) : Option (Unit × gx_R) :=
  K0 (gx_up σ 109 15 ((σ 109 15) + (1 : Int32)))
noncomputable def Md_next_26 (σ : gx_R) : Option (Unit × gx_R) :=
  if ((gx_up σ 109 16 (σ 109 15)) 109 15) = ((gx_up σ 109 16 (σ 109 15)) 109 14) then
    some ((), (gx_up (gx_up σ 109 16 (σ 109 15)) 109 17 (0 : Int32)))
  else
    z_ck (z_ix ((gx_up σ 109 16 (σ 109 15)) 109 15) 300) (
    z_bd (Md_isLetter ((gx_up σ 109 16 (σ 109 15)) 112 (((gx_up σ 109 16 (σ 109 15)) 109 15).toNatClampNeg)) (gx_up σ 109 16 (σ 109 15))) (fun r8 σ9 =>
    if r8 = 0 then
      z_bd (Md_in ((gx_up σ 109 16 (σ 109 15)) 112 (((gx_up σ 109 16 (σ 109 15)) 109 15).toNatClampNeg)) (48 : Int32) (57 : Int32) σ9) (fun r12 σ13 =>
      if r12 = 0 then
        z_bd (Md_in ((gx_up σ 109 16 (σ 109 15)) 112 (((gx_up σ 109 16 (σ 109 15)) 109 15).toNatClampNeg)) (59 : Int32) (62 : Int32) (gx_up (gx_up σ13 109 15 ((σ13 109 15) + (1 : Int32))) 109 18 ((gx_up σ 109 16 (σ 109 15)) 112 (((gx_up σ 109 16 (σ 109 15)) 109 15).toNatClampNeg)))) (fun r16 σ17 =>
        if r16 = 0 then
          z_bd (Md_in ((gx_up σ 109 16 (σ 109 15)) 112 (((gx_up σ 109 16 (σ 109 15)) 109 15).toNatClampNeg)) (40 : Int32) (45 : Int32) σ17) (fun r20 σ21 =>
          if r20 = 0 then
            if ((gx_up σ 109 16 (σ 109 15)) 112 (((gx_up σ 109 16 (σ 109 15)) 109 15).toNatClampNeg)) = (47 : Int32) then
              Md_next_187 (Md_next_190) ((gx_up σ 109 16 (σ 109 15)) 112 (((gx_up σ 109 16 (σ 109 15)) 109 15).toNatClampNeg)) σ21
            else
              if ((gx_up σ 109 16 (σ 109 15)) 112 (((gx_up σ 109 16 (σ 109 15)) 109 15).toNatClampNeg)) = (35 : Int32) then
                Md_next_187 (Md_next_190) ((gx_up σ 109 16 (σ 109 15)) 112 (((gx_up σ 109 16 (σ 109 15)) 109 15).toNatClampNeg)) σ21
              else
                Md_next_190 ((gx_up σ 109 16 (σ 109 15)) 112 (((gx_up σ 109 16 (σ 109 15)) 109 15).toNatClampNeg)) (4 : Int32) σ21
          else
            Md_next_187 (Md_next_190) ((gx_up σ 109 16 (σ 109 15)) 112 (((gx_up σ 109 16 (σ 109 15)) 109 15).toNatClampNeg)) σ21)
        else
          Md_next_187 (Md_next_190) ((gx_up σ 109 16 (σ 109 15)) 112 (((gx_up σ 109 16 (σ 109 15)) 109 15).toNatClampNeg)) σ17)
      else
        Md_next_119 z_FU (gx_up (gx_up σ13 109 17 (2 : Int32)) 109 18 (0 : Int32)))
    else
      Md_next_52 z_FU (0 : Int64) (0 : Int32) σ9))
noncomputable def Md_next_0_B (K0 : gx_R → Option (Unit × gx_R)) (σ : gx_R) : Option (Unit × gx_R) :=
  if (σ 109 14) ≤ (σ 109 15) then
    Md_next_26 σ
  else
    z_ck (z_ix (σ 109 15) 300) (
    if (σ 112 ((σ 109 15).toNatClampNeg)) = (32 : Int32) then
      Md_next_19 K0 σ
    else
      z_ck (z_ix (σ 109 15) 300) (
      if (σ 112 ((σ 109 15).toNatClampNeg)) = (10 : Int32) then
        Md_next_19 K0 σ
      else
        Md_next_26 σ))
noncomputable def Md_next_0 : Nat → gx_R → Option (Unit × gx_R)
  | 0, _ => none
  | n + 1, σ => Md_next_0_B (Md_next_0 n) σ
noncomputable def Md_next (σ : gx_R) : Option (Unit × gx_R) :=
  Md_next_0 z_FU σ
noncomputable def Md_isSign (a1 : Int32) (σ : gx_R) : Option (Int32 × gx_R) :=
  if (σ 109 17) = (3 : Int32) then
    if (σ 109 18) = a1 then
      some ((1 : Int32), σ)
    else
      some ((0 : Int32), σ)
  else
    some ((0 : Int32), σ)
noncomputable def Md_isWord (a1 : Int32) (σ : gx_R) : Option (Int32 × gx_R) :=
  if (σ 109 17) = (1 : Int32) then
    if (σ 109 18) = a1 then
      some ((1 : Int32), σ)
    else
      some ((0 : Int32), σ)
  else
    some ((0 : Int32), σ)
noncomputable def Md_errs (a1 : Int32) (σ : gx_R) : Option (Unit × gx_R) :=
  if (σ 109 19) = 0 then
    some ((), (gx_up (gx_up σ 109 19 a1) 109 20 ((gx_up σ 109 19 a1) 109 16)))
  else
    some ((), σ)
noncomputable def Md_emits (a1 : Int32) (a2 : Int32) (σ : gx_R) : Option (Unit × gx_R) :=
  z_ck (z_ix (σ 109 37) 400) (
  z_ck (z_ix ((gx_up σ 131 (σ 109 37).toNatClampNeg a1) 109 37) 400) (
  some ((), (gx_up (gx_up (gx_up σ 131 (σ 109 37).toNatClampNeg a1) 132 ((gx_up σ 131 (σ 109 37).toNatClampNeg a1) 109 37).toNatClampNeg a2) 109 37 (((gx_up (gx_up σ 131 (σ 109 37).toNatClampNeg a1) 132 ((gx_up σ 131 (σ 109 37).toNatClampNeg a1) 109 37).toNatClampNeg a2) 109 37) + (1 : Int32))))))
noncomputable def Md_opensFrame (a1 : Int32) (σ : gx_R) : Option (Unit × gx_R) :=
  z_ck (z_ix (σ 109 22) 40) (
  some ((), (gx_up (gx_up σ 121 (σ 109 22).toNatClampNeg a1) 109 22 (((gx_up σ 121 (σ 109 22).toNatClampNeg a1) 109 22) + (1 : Int32)))))
noncomputable def Md_top (σ : gx_R) : Option (Int32 × gx_R) :=
  z_ck (z_ix ((σ 109 22) - (1 : Int32)) 40) (
  some ((σ 121 (((σ 109 22) - (1 : Int32)).toNatClampNeg)), σ))
noncomputable def Md_opensSign (a1 : Int32) (σ : gx_R) : Option (Int32 × gx_R) :=
  if (σ 109 21) = (8 : Int32) then
    z_bd (Md_errs (3 : Int32) σ) (fun _ σ3 =>
    some ((0 : Int32), σ3))
  else
    z_bd (Md_opensFrame a1 (gx_up σ 109 21 ((σ 109 21) + (1 : Int32)))) (fun _ σ6 =>
    z_bd (Md_next σ6) (fun _ σ9 =>
    some ((1 : Int32), σ9)))
noncomputable def Md_rank_16 (σ : gx_R) : Option (Int32 × gx_R) :=
  some ((3 : Int32), σ)
noncomputable def Md_rank (a0 : Int32) (σ : gx_R) : Option (Int32 × gx_R) :=
  if a0 = (407 : Int32) then
    some ((1 : Int32), σ)
  else
    if a0 = (406 : Int32) then
      some ((2 : Int32), σ)
    else
      if a0 = (43 : Int32) then
        Md_rank_16 σ
      else
        if a0 = (45 : Int32) then
          Md_rank_16 σ
        else
          some ((4 : Int32), σ)
noncomputable def Md_works_0_B (K0 : Int32 → gx_R → Option (Unit × gx_R)) (a1 : Int32) (σ : gx_R) : Option (Unit × gx_R) :=
  if (σ 109 25) ≤ 0 then
    some ((), σ)
  else
    z_ck (z_ix ((σ 109 25) - (1 : Int32)) 80) (
    if (σ 124 (((σ 109 25) - (1 : Int32)).toNatClampNeg)) = (σ 109 22) then
      z_ck (z_ix ((σ 109 25) - (1 : Int32)) 80) (
      z_bd (Md_rank (σ 123 (((σ 109 25) - (1 : Int32)).toNatClampNeg)) σ) (fun r5 σ6 =>
      if r5 < a1 then
        some ((), σ6)
      else
        z_ck (z_ix ((gx_up σ6 109 25 ((σ6 109 25) - (1 : Int32))) 109 25) 80) (
        z_bd (Md_emits ((gx_up σ6 109 25 ((σ6 109 25) - (1 : Int32))) 123 (((gx_up σ6 109 25 ((σ6 109 25) - (1 : Int32))) 109 25).toNatClampNeg)) (0 : Int32) (gx_up σ6 109 25 ((σ6 109 25) - (1 : Int32)))) (fun _ σ11 =>
        K0 a1 σ11))))
    else
      some ((), σ))
noncomputable def Md_works_0 : Nat → Int32 → gx_R → Option (Unit × gx_R)
  | 0, _, _ => none
  | n + 1, a1, σ => Md_works_0_B (Md_works_0 n) a1 σ
noncomputable def Md_works (a1 : Int32) (σ : gx_R) : Option (Unit × gx_R) :=
  Md_works_0 z_FU a1 σ
noncomputable def Md_waitsFor (a1 : Int32) (σ : gx_R) : Option (Unit × gx_R) :=
  z_bd (Md_rank a1 σ) (fun r1 σ2 =>
  z_bd (Md_works r1 σ2) (fun _ σ5 =>
  z_ck (z_ix (σ5 109 25) 80) (
  z_ck (z_ix ((gx_up σ5 123 (σ5 109 25).toNatClampNeg a1) 109 25) 80) (
  z_bd (Md_next (gx_up (gx_up (gx_up σ5 123 (σ5 109 25).toNatClampNeg a1) 124 ((gx_up σ5 123 (σ5 109 25).toNatClampNeg a1) 109 25).toNatClampNeg ((gx_up σ5 123 (σ5 109 25).toNatClampNeg a1) 109 22)) 109 25 (((gx_up (gx_up σ5 123 (σ5 109 25).toNatClampNeg a1) 124 ((gx_up σ5 123 (σ5 109 25).toNatClampNeg a1) 109 25).toNatClampNeg ((gx_up σ5 123 (σ5 109 25).toNatClampNeg a1) 109 22)) 109 25) + (1 : Int32)))) (fun _ σ10 =>
  some ((), σ10))))))
noncomputable def Md_asks (σ : gx_R) : Option (Unit × gx_R) :=
  z_bd (Md_isWord (16 : Int32) σ) (fun r1 σ2 =>
  if r1 = 0 then
    z_bd (Md_opensFrame (4 : Int32) σ2) (fun _ σ6 =>
    some ((), (gx_up σ6 109 28 (1 : Int32))))
  else
    z_bd (Md_opensSign (3 : Int32) σ2) (fun r8 σ9 =>
    some ((), σ9)))
noncomputable def Md_mayName (a0 : Int32) (a1 : Int32) (σ : gx_R) : Option (Int32 × gx_R) :=
  if a0 = (0 : Int32) then
    some ((1 : Int32), σ)
  else
  if a0 = (1 : Int32) then
    some ((1 : Int32), σ)
  else
  if a0 = (2 : Int32) then
    if a1 = (3 : Int32) then
      some ((0 : Int32), σ)
    else
      some ((1 : Int32), σ)
  else
  if a0 = (3 : Int32) then
    if a1 = (1 : Int32) then
      some ((0 : Int32), σ)
    else
      some ((1 : Int32), σ)
  else
  if a0 = (4 : Int32) then
    if a1 = 0 then
      some ((1 : Int32), σ)
    else
      some ((0 : Int32), σ)
  else
  if a0 = (5 : Int32) then
    if a1 = 0 then
      some ((1 : Int32), σ)
    else
      some ((0 : Int32), σ)
  else
  if a0 = (6 : Int32) then
    if a1 = (1 : Int32) then
      some ((1 : Int32), σ)
    else
      some ((0 : Int32), σ)
  else
  if a0 = (7 : Int32) then
    if a1 = (1 : Int32) then
      some ((1 : Int32), σ)
    else
      some ((0 : Int32), σ)
  else
    if a1 = (3 : Int32) then
      some ((1 : Int32), σ)
    else
      some ((0 : Int32), σ)
noncomputable def Md_nameNow (σ : gx_R) : Option (Int32 × gx_R) :=
  if (σ 109 17) = (1 : Int32) then
    if (σ 109 18) ≤ (20 : Int32) then
      some ((-1 : Int32), σ)
    else
      some ((((σ 109 18) - (20 : Int32)) - (1 : Int32)), σ)
  else
    some ((-1 : Int32), σ)
noncomputable def Md_oneIsOver_21 (σ : gx_R) : Option (Unit × gx_R) :=
  some ((), (gx_up σ 109 28 (2 : Int32)))
noncomputable def Md_oneIsOver_0_B (K0 : gx_R → Option (Unit × gx_R)) (σ : gx_R) : Option (Unit × gx_R) :=
  z_bd (Md_top σ) (fun r1 σ2 =>
  if r1 = (7 : Int32) then
    z_bd (Md_emits (402 : Int32) (0 : Int32) (gx_up (gx_up σ2 109 22 ((σ2 109 22) - (1 : Int32))) 109 21 (((gx_up σ2 109 22 ((σ2 109 22) - (1 : Int32))) 109 21) - (1 : Int32)))) (fun _ σ6 =>
    K0 σ6)
  else
    Md_oneIsOver_21 σ2)
noncomputable def Md_oneIsOver_0 : Nat → gx_R → Option (Unit × gx_R)
  | 0, _ => none
  | n + 1, σ => Md_oneIsOver_0_B (Md_oneIsOver_0 n) σ
noncomputable def Md_oneIsOver (σ : gx_R) : Option (Unit × gx_R) :=
  Md_oneIsOver_0 z_FU σ
noncomputable def Md_begins (σ : gx_R) : Option (Unit × gx_R) :=
  z_bd (Md_nameNow σ) (fun r1 σ2 =>
  if (σ2 109 17) = (2 : Int32) then
    if (σ2 109 18) ≤ (9999 : Int32) then
      z_bd (Md_emits (400 : Int32) (σ2 109 18) σ2) (fun _ σ7 =>
      z_bd (Md_next σ7) (fun _ σ10 =>
      z_bd (Md_oneIsOver σ10) (fun _ σ13 =>
      some ((), σ13))))
    else
      z_bd (Md_errs (2 : Int32) σ2) (fun _ σ16 =>
      some ((), σ16))
  else
    if r1 = (-1 : Int32) then
      z_bd (Md_isWord (17 : Int32) σ2) (fun r19 σ20 =>
      if r19 = 0 then
        z_bd (Md_isSign (40 : Int32) σ20) (fun r23 σ24 =>
        if r23 = 0 then
          z_bd (Md_isSign (45 : Int32) σ24) (fun r27 σ28 =>
          if r27 = 0 then
            z_bd (Md_errs (1 : Int32) σ28) (fun _ σ32 =>
            some ((), σ32))
          else
            z_bd (Md_opensSign (7 : Int32) σ28) (fun r34 σ35 =>
            some ((), σ35)))
        else
          z_bd (Md_opensSign (6 : Int32) σ24) (fun r37 σ38 =>
          some ((), σ38)))
      else
        z_bd (Md_opensSign (2 : Int32) σ20) (fun r40 σ41 =>
        if r40 = 0 then
          some ((), σ41)
        else
          some ((), (gx_up σ41 109 28 (0 : Int32)))))
    else
      z_bd (Md_mayName r1 (σ2 109 31) σ2) (fun r44 σ45 =>
      if r44 = 0 then
        z_bd (Md_errs (5 : Int32) σ45) (fun _ σ49 =>
        some ((), σ49))
      else
        z_bd (Md_emits (401 : Int32) r1 σ45) (fun _ σ52 =>
        z_bd (Md_next σ52) (fun _ σ55 =>
        z_bd (Md_oneIsOver σ55) (fun _ σ58 =>
        some ((), σ58))))))
noncomputable def Md_askIsOver_21 (σ : gx_R) : Option (Unit × gx_R) :=
  some ((), (gx_up σ 109 28 (3 : Int32)))
noncomputable def Md_askIsOver_0_B (K0 : gx_R → Option (Unit × gx_R)) (σ : gx_R) : Option (Unit × gx_R) :=
  z_bd (Md_top σ) (fun r1 σ2 =>
  if r1 = (3 : Int32) then
    z_bd (Md_emits (405 : Int32) (0 : Int32) (gx_up (gx_up σ2 109 22 ((σ2 109 22) - (1 : Int32))) 109 21 (((gx_up σ2 109 22 ((σ2 109 22) - (1 : Int32))) 109 21) - (1 : Int32)))) (fun _ σ6 =>
    K0 σ6)
  else
    Md_askIsOver_21 σ2)
noncomputable def Md_askIsOver_0 : Nat → gx_R → Option (Unit × gx_R)
  | 0, _ => none
  | n + 1, σ => Md_askIsOver_0_B (Md_askIsOver_0 n) σ
noncomputable def Md_askIsOver (σ : gx_R) : Option (Unit × gx_R) :=
  Md_askIsOver_0 z_FU σ
noncomputable def Md_isAsking_18 (σ : gx_R) : Option (Int32 × gx_R) :=
  some ((1 : Int32), σ)
noncomputable def Md_isAsking (a0 : Int32) (σ : gx_R) : Option (Int32 × gx_R) :=
  if a0 = (60 : Int32) then
    Md_isAsking_18 σ
  else
    if a0 = (62 : Int32) then
      Md_isAsking_18 σ
    else
      if a0 = (61 : Int32) then
        Md_isAsking_18 σ
      else
        if a0 = (35 : Int32) then
          Md_isAsking_18 σ
        else
          if a0 = (300 : Int32) then
            Md_isAsking_18 σ
          else
            if a0 = (301 : Int32) then
              Md_isAsking_18 σ
            else
              some ((0 : Int32), σ)
noncomputable def Md_turnsTo_26 (a1 : Int32) (σ : gx_R) : Option (Unit × gx_R) :=
  z_ck (z_ix ((σ 109 22) - (1 : Int32)) 40) (
  z_bd (Md_next (gx_up σ 121 ((σ 109 22) - (1 : Int32)).toNatClampNeg a1)) (fun _ σ10 =>
  some ((), (gx_up σ10 109 28 (1 : Int32)))))
noncomputable def Md_turnsTo (a1 : Int32) (a2 : Int32) (σ : gx_R) : Option (Unit × gx_R) :=
  z_ck (z_ix (σ 109 22) 41) (
  z_ck (z_ix (σ 109 22) 41) (
  z_bd (Md_emits a2 (0 : Int32) (gx_up σ 125 (σ 109 22).toNatClampNeg (σ 109 37))) (fun _ σ4 =>
  if a2 = (404 : Int32) then
    z_ck (z_ix (σ 125 ((σ 109 22).toNatClampNeg)) 400) (
    Md_turnsTo_26 a1 (gx_up σ4 132 (σ 125 ((σ 109 22).toNatClampNeg)).toNatClampNeg (σ4 109 37)))
  else
    Md_turnsTo_26 a1 σ4)))
noncomputable def Md_clauseIsOver (σ : gx_R) : Option (Unit × gx_R) :=
  z_bd (Md_works (1 : Int32) σ) (fun _ σ2 =>
  z_bd (Md_emits (408 : Int32) (0 : Int32) (gx_up σ2 109 22 (0 : Int32))) (fun _ σ5 =>
  z_bd (Md_next (gx_up σ5 109 30 ((σ5 109 30) + (1 : Int32)))) (fun _ σ8 =>
  some ((), (gx_up σ8 109 28 (4 : Int32))))))
noncomputable def Md_goesOn_180 (σ : gx_R) : Option (Unit × gx_R) :=
  z_bd (Md_errs (1 : Int32) σ) (fun _ σ87 =>
  some ((), σ87))
noncomputable def Md_goesOn_145 (a1 : Int32) (σ : gx_R) : Option (Unit × gx_R) :=
  if a1 = (5 : Int32) then
    z_bd (Md_works (3 : Int32) σ) (fun _ σ69 =>
    z_ck (z_ix (σ69 109 22) 41) (
    z_bd (Md_emits (σ69 122 ((σ69 109 22).toNatClampNeg)) (0 : Int32) (gx_up σ69 109 22 ((σ69 109 22) - (1 : Int32)))) (fun _ σ73 =>
    z_bd (Md_askIsOver σ73) (fun _ σ76 =>
    some ((), σ76)))))
  else
    if a1 = (1 : Int32) then
      z_bd (Md_isSign (59 : Int32) σ) (fun r79 σ80 =>
      if r79 = 0 then
        Md_goesOn_180 σ80
      else
        z_bd (Md_clauseIsOver σ80) (fun _ σ84 =>
        some ((), σ84)))
    else
      Md_goesOn_180 σ
noncomputable def Md_goesOn_110 (a1 : Int32) (σ : gx_R) : Option (Unit × gx_R) :=
  if a1 = (4 : Int32) then
    if (σ 109 17) = (3 : Int32) then
      z_bd (Md_isAsking (σ 109 18) σ) (fun r55 σ56 =>
      if r55 = 0 then
        Md_goesOn_145 a1 σ56
      else
        z_bd (Md_works (3 : Int32) σ56) (fun _ σ60 =>
        z_ck (z_ix (σ60 109 22) 41) (
        z_ck (z_ix (((gx_up σ60 122 (σ60 109 22).toNatClampNeg (σ60 109 18)) 109 22) - (1 : Int32)) 40) (
        z_bd (Md_next (gx_up (gx_up σ60 122 (σ60 109 22).toNatClampNeg (σ60 109 18)) 121 (((gx_up σ60 122 (σ60 109 22).toNatClampNeg (σ60 109 18)) 109 22) - (1 : Int32)).toNatClampNeg (5 : Int32))) (fun _ σ65 =>
        some ((), (gx_up σ65 109 28 (1 : Int32))))))))
    else
      Md_goesOn_145 a1 σ
  else
    Md_goesOn_145 a1 σ
noncomputable def Md_goesOn_73 (a1 : Int32) (σ : gx_R) : Option (Unit × gx_R) :=
  if a1 = (9 : Int32) then
    z_bd (Md_isWord (20 : Int32) σ) (fun r38 σ39 =>
    if r38 = 0 then
      Md_goesOn_110 a1 σ39
    else
      z_bd (Md_works (3 : Int32) σ39) (fun _ σ43 =>
      z_ck (z_ix (σ43 109 22) 41) (
      z_ck (z_ix (σ43 125 ((σ43 109 22).toNatClampNeg)) 400) (
      z_bd (Md_next (gx_up (gx_up (gx_up σ43 132 (σ43 125 ((σ43 109 22).toNatClampNeg)).toNatClampNeg (σ43 109 37)) 109 22 (((gx_up σ43 132 (σ43 125 ((σ43 109 22).toNatClampNeg)).toNatClampNeg (σ43 109 37)) 109 22) - (1 : Int32))) 109 21 (((gx_up (gx_up σ43 132 (σ43 125 ((σ43 109 22).toNatClampNeg)).toNatClampNeg (σ43 109 37)) 109 22 (((gx_up σ43 132 (σ43 125 ((σ43 109 22).toNatClampNeg)).toNatClampNeg (σ43 109 37)) 109 22) - (1 : Int32))) 109 21) - (1 : Int32)))) (fun _ σ48 =>
      z_bd (Md_oneIsOver σ48) (fun _ σ51 =>
      some ((), σ51)))))))
  else
    Md_goesOn_110 a1 σ
noncomputable def Md_goesOn_23 (σ : gx_R) : Option (Unit × gx_R) :=
  z_bd (Md_waitsFor (σ 109 18) σ) (fun _ σ10 =>
  some ((), (gx_up σ10 109 28 (1 : Int32))))
noncomputable def Md_goesOn_58 (a1 : Int32) (σ : gx_R) : Option (Unit × gx_R) :=
  if a1 = (8 : Int32) then
    z_bd (Md_isWord (19 : Int32) σ) (fun r27 σ28 =>
    if r27 = 0 then
      Md_goesOn_73 a1 σ28
    else
      z_bd (Md_works (3 : Int32) σ28) (fun _ σ32 =>
      z_bd (Md_turnsTo (9 : Int32) (404 : Int32) σ32) (fun _ σ35 =>
      some ((), σ35))))
  else
    Md_goesOn_73 a1 σ
noncomputable def Md_goesOn_31 (a1 : Int32) (σ : gx_R) : Option (Unit × gx_R) :=
  if a1 = (6 : Int32) then
    z_bd (Md_isSign (41 : Int32) σ) (fun r13 σ14 =>
    if r13 = 0 then
      Md_goesOn_58 a1 σ14
    else
      z_bd (Md_works (3 : Int32) σ14) (fun _ σ18 =>
      z_bd (Md_next (gx_up (gx_up σ18 109 22 ((σ18 109 22) - (1 : Int32))) 109 21 (((gx_up σ18 109 22 ((σ18 109 22) - (1 : Int32))) 109 21) - (1 : Int32)))) (fun _ σ21 =>
      z_bd (Md_oneIsOver σ21) (fun _ σ24 =>
      some ((), σ24)))))
  else
    Md_goesOn_58 a1 σ
noncomputable def Md_goesOn (σ : gx_R) : Option (Unit × gx_R) :=
  z_bd (Md_top σ) (fun r1 σ2 =>
  if (σ2 109 17) = (3 : Int32) then
    if (σ2 109 18) = (43 : Int32) then
      Md_goesOn_23 σ2
    else
      if (σ2 109 18) = (45 : Int32) then
        Md_goesOn_23 σ2
      else
        if (σ2 109 18) = (42 : Int32) then
          Md_goesOn_23 σ2
        else
          if (σ2 109 18) = (47 : Int32) then
            Md_goesOn_23 σ2
          else
            Md_goesOn_31 r1 σ2
  else
    Md_goesOn_31 r1 σ2)
noncomputable def Md_asksOn_37 (σ : gx_R) : Option (Unit × gx_R) :=
  z_bd (Md_errs (1 : Int32) σ) (fun _ σ31 =>
  some ((), σ31))
noncomputable def Md_asksOn_16 (s1 : Int32) (σ : gx_R) : Option (Unit × gx_R) :=
  z_bd (Md_waitsFor s1 σ) (fun _ σ28 =>
  some ((), (gx_up σ28 109 28 (0 : Int32))))
noncomputable def Md_asksOn_8 (σ : gx_R) : Option (Unit × gx_R) :=
  z_bd (Md_isWord (14 : Int32) σ) (fun r23 σ24 =>
  if r23 = 0 then
    Md_asksOn_16 (406 : Int32) σ24
  else
    Md_asksOn_16 (407 : Int32) σ24)
noncomputable def Md_asksOn (σ : gx_R) : Option (Unit × gx_R) :=
  z_bd (Md_isWord (14 : Int32) σ) (fun r1 σ2 =>
  if r1 = 0 then
    z_bd (Md_isWord (15 : Int32) σ2) (fun r5 σ6 =>
    if r5 = 0 then
      z_bd (Md_top σ6) (fun r9 σ10 =>
      if r9 = (2 : Int32) then
        z_bd (Md_isWord (18 : Int32) σ10) (fun r13 σ14 =>
        if r13 = 0 then
          Md_asksOn_37 σ14
        else
          z_bd (Md_works (1 : Int32) σ14) (fun _ σ18 =>
          z_bd (Md_turnsTo (8 : Int32) (403 : Int32) σ18) (fun _ σ21 =>
          some ((), σ21))))
      else
        Md_asksOn_37 σ10)
    else
      Md_asksOn_8 σ6)
  else
    Md_asksOn_8 σ2)
noncomputable def Md_number_7 (a1 : Int32) (σ : gx_R) : Option (Int32 × gx_R) :=
  z_bd (Md_errs (1 : Int32) σ) (fun _ σ14 =>
  some (a1, σ14))
noncomputable def Md_number (a1 : Int32) (a2 : Int32) (σ : gx_R) : Option (Int32 × gx_R) :=
  if 0 < (σ 109 19) then
    Md_number_7 a1 σ
  else
    if (σ 109 17) = (2 : Int32) then
      z_bd (Md_in (σ 109 18) a1 a2 σ) (fun r3 σ4 =>
      if r3 = 0 then
        z_bd (Md_errs (2 : Int32) σ4) (fun _ σ8 =>
        some (a1, σ8))
      else
        z_bd (Md_next σ4) (fun _ σ11 =>
        some ((σ4 109 18), σ11)))
    else
      Md_number_7 a1 σ
noncomputable def Md_wasTold_16 (K19 : Int32 → Int32 → Int32 → gx_R → Option (Int32 × gx_R)) (a1 : Int32) (a3 : Int32) (σ : gx_R) : Option (Int32 × gx_R) :=
  K19 a1 a3 (1 : Int32) σ
noncomputable def Md_wasTold_19 (K4 : Int32 → Int32 → Int32 → gx_R → Option (Int32 × gx_R)) (a1 : Int32) (a3 : Int32) (s0 : Int32) (σ : gx_R) : Option (Int32 × gx_R) :=
  K4 a1 s0 (a3 + 1) σ
noncomputable def Md_wasTold_4_B (K4 : Int32 → Int32 → Int32 → gx_R → Option (Int32 × gx_R)) (a1 : Int32) (a2 : Int32) (a3 : Int32) (σ : gx_R) : Option (Int32 × gx_R) :=
  if (σ 109 30) ≤ a3 then
    z_ck (z_bo a2) (
    some (a2, σ))
  else
    if a2 = 0 then
      z_ck (z_ix a3 24) (
      if (σ 126 a3.toNatClampNeg) = a1 then
        Md_wasTold_16 (Md_wasTold_19 K4) a1 a3 σ
      else
        Md_wasTold_19 K4 a1 a3 (0 : Int32) σ)
    else
      Md_wasTold_16 (Md_wasTold_19 K4) a1 a3 σ
noncomputable def Md_wasTold_4 : Nat → Int32 → Int32 → Int32 → gx_R → Option (Int32 × gx_R)
  | 0, _, _, _, _ => none
  | n + 1, a1, a2, a3, σ => Md_wasTold_4_B (Md_wasTold_4 n) a1 a2 a3 σ
noncomputable def Md_wasTold (a1 : Int32) (σ : gx_R) : Option (Int32 × gx_R) :=
  Md_wasTold_4 z_FU a1 (0 : Int32) (0 : Int32) σ
noncomputable def Md_numberBehind_15 (a2 : Int32) (a3 : Int32) (σ : gx_R) : Option (Int32 × gx_R) :=
  z_bd (Md_number a2 a3 σ) (fun r13 σ14 =>
  some (r13, σ14))
noncomputable def Md_numberBehind_10 (a2 : Int32) (a3 : Int32) (σ : gx_R) : Option (Int32 × gx_R) :=
  if (σ 109 19) = 0 then
    z_bd (Md_next σ) (fun _ σ11 =>
    Md_numberBehind_15 a2 a3 σ11)
  else
    Md_numberBehind_15 a2 a3 σ
noncomputable def Md_numberBehind (a1 : Int32) (a2 : Int32) (a3 : Int32) (σ : gx_R) : Option (Int32 × gx_R) :=
  if (σ 109 19) = 0 then
    z_bd (Md_isWord a1 σ) (fun r2 σ3 =>
    if r2 = 0 then
      z_bd (Md_errs (1 : Int32) σ3) (fun _ σ7 =>
      Md_numberBehind_10 a2 a3 σ7)
    else
      Md_numberBehind_10 a2 a3 σ3)
  else
    Md_numberBehind_10 a2 a3 σ
noncomputable def Md_doing_62 (a1 : Int32) (a2 : Int32) (a3 : Int32) (σ : gx_R) : Option (Unit × gx_R) :=
  z_ck (z_ix (σ 109 30) 24) (
  z_ck (z_ix ((gx_up σ 128 (σ 109 30).toNatClampNeg a1) 109 30) 24) (
  z_ck (z_ix ((gx_up (gx_up σ 128 (σ 109 30).toNatClampNeg a1) 129 ((gx_up σ 128 (σ 109 30).toNatClampNeg a1) 109 30).toNatClampNeg a2) 109 30) 24) (
  some ((), (gx_up (gx_up (gx_up σ 128 (σ 109 30).toNatClampNeg a1) 129 ((gx_up σ 128 (σ 109 30).toNatClampNeg a1) 109 30).toNatClampNeg a2) 130 ((gx_up (gx_up σ 128 (σ 109 30).toNatClampNeg a1) 129 ((gx_up σ 128 (σ 109 30).toNatClampNeg a1) 109 30).toNatClampNeg a2) 109 30).toNatClampNeg a3)))))
noncomputable def Md_doing (σ : gx_R) : Option (Unit × gx_R) :=
  if (σ 109 31) = (4 : Int32) then
    z_bd (Md_number (0 : Int32) (7 : Int32) σ) (fun r2 σ3 =>
    z_bd (Md_numberBehind (10 : Int32) (0 : Int32) (5 : Int32) σ3) (fun r5 σ6 =>
    Md_doing_62 r2 r5 (-1 : Int32) σ6))
  else
  if (σ 109 31) = (5 : Int32) then
    z_bd (Md_number (0 : Int32) (7 : Int32) σ) (fun r9 σ10 =>
    z_bd (Md_numberBehind (11 : Int32) (0 : Int32) (7 : Int32) σ10) (fun r12 σ13 =>
    Md_doing_62 r9 r12 (-1 : Int32) σ13))
  else
  if (σ 109 31) = (8 : Int32) then
    z_bd (Md_number (0 : Int32) (7 : Int32) σ) (fun r16 σ17 =>
    z_bd (Md_numberBehind (12 : Int32) (0 : Int32) (7 : Int32) σ17) (fun r19 σ20 =>
    z_bd (Md_numberBehind (13 : Int32) (1 : Int32) (99 : Int32) σ20) (fun r22 σ23 =>
    Md_doing_62 r16 r19 r22 σ23)))
  else
  if (σ 109 31) = (9 : Int32) then
    z_bd (Md_number (1 : Int32) (60 : Int32) σ) (fun r26 σ27 =>
    Md_doing_62 r26 (-1 : Int32) (-1 : Int32) σ27)
  else
    z_bd (Md_number (0 : Int32) (7 : Int32) σ) (fun r30 σ31 =>
    Md_doing_62 r30 (-1 : Int32) (-1 : Int32) σ31)
