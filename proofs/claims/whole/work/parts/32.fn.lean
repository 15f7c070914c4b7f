noncomputable def Qu_asleepForNobody_36 (K12 : Int32 → Int32 → Int32 → gx_R → Option (Int32 × gx_R)) (a2 : Int32) (a3 : Int32) (a4 : Int32) (σ : gx_R) : Option (Int32 × gx_R) :=
  K12 a2 a3 (a4 + 1) σ
noncomputable def Qu_asleepForNobody_12_B (K12 : Int32 → Int32 → Int32 → gx_R → Option (Int32 × gx_R)) (a2 : Int32) (a3 : Int32) (a4 : Int32) (σ : gx_R) : Option (Int32 × gx_R) :=
  if (8 : Int32) ≤ a4 then
    some (a3, σ)
  else
    z_ck (z_ix a4 8) (
    if (σ 10 a4.toNatClampNeg) = (2 : Int32) then
      z_ck (z_ix a4 8) (
      if ((a2 >>> ((σ 11 a4.toNatClampNeg) &&& 31)) &&& (1 : Int32)) = 0 then
        Qu_asleepForNobody_36 K12 a2 (a3 ||| ((1 : Int32) <<< (a4 &&& 31))) a4 σ
      else
        Qu_asleepForNobody_36 K12 a2 a3 a4 σ)
    else
      Qu_asleepForNobody_36 K12 a2 a3 a4 σ)
noncomputable def Qu_asleepForNobody_12 : Nat → Int32 → Int32 → Int32 → gx_R → Option (Int32 × gx_R)
  | 0, _, _, _, _ => none
  | n + 1, a2, a3, a4, σ => Qu_asleepForNobody_12_B (Qu_asleepForNobody_12 n) a2 a3 a4 σ
noncomputable def Qu_asleepForNobody (σ : gx_R) : Option (Int32 × gx_R) :=
  z_bd (Ni_those 9 (1 : Int32) σ) (fun r1 σ2 =>
  Qu_asleepForNobody_12 z_FU r1 (0 : Int32) (0 : Int32) σ2)
noncomputable def Re_isLetter_6 (K12 : gx_R → Option (Int32 × gx_R)) (a0 : Int32) (σ : gx_R) : Option (Int32 × gx_R) :=
  if a0 < (65 : Int32) then
    some ((0 : Int32), σ)
  else
    if (90 : Int32) < a0 then
      some ((0 : Int32), σ)
    else
      K12 σ
noncomputable def Re_isLetter_12 (σ : gx_R) : Option (Int32 × gx_R) :=
  some ((1 : Int32), σ)
noncomputable def Re_isLetter (a0 : Int32) (σ : gx_R) : Option (Int32 × gx_R) :=
  if a0 < (97 : Int32) then
    Re_isLetter_6 (Re_isLetter_12) a0 σ
  else
    if a0 ≤ (122 : Int32) then
      Re_isLetter_12 σ
    else
      Re_isLetter_6 (Re_isLetter_12) a0 σ
noncomputable def Re_byteAt (a1 : Int32) (σ : gx_R) : Option (Int32 × gx_R) :=
  if a1 < 0 then
    some ((-1 : Int32), σ)
  else
    if (σ 39 1) ≤ a1 then
      some ((-1 : Int32), σ)
    else
      z_ck (z_ix a1 300) (
      some ((σ 38 a1.toNatClampNeg), σ))
noncomputable def Re_isWord_25 (K12 : Int32 → Int32 → Int32 → Int32 → gx_R → Option (Int32 × gx_R)) (a1 : Int32) (a2 : Int32) (a3 : Int32) (a4 : Int32) (s0 : Int32) (σ : gx_R) : Option (Int32 × gx_R) :=
  z_ck (z_ix ((a1 * (5 : Int32)) + a4) 150) (
  if (z_chAt ((a1 * (5 : Int32)) + a4)) = s0 then
    K12 a1 a2 a3 (a4 + 1) σ
  else
    some ((0 : Int32), σ))
noncomputable def Re_isWord_12_B (K12 : Int32 → Int32 → Int32 → Int32 → gx_R → Option (Int32 × gx_R)) (a1 : Int32) (a2 : Int32) (a3 : Int32) (a4 : Int32) (σ : gx_R) : Option (Int32 × gx_R) :=
  if (5 : Int32) ≤ a4 then
    some ((1 : Int32), σ)
  else
    if a3 ≤ a4 then
      Re_isWord_25 K12 a1 a2 a3 a4 (32 : Int32) σ
    else
      z_bd (Re_byteAt (a2 + a4) σ) (fun r4 σ5 =>
      Re_isWord_25 K12 a1 a2 a3 a4 r4 σ5)
noncomputable def Re_isWord_12 : Nat → Int32 → Int32 → Int32 → Int32 → gx_R → Option (Int32 × gx_R)
  | 0, _, _, _, _, _ => none
  | n + 1, a1, a2, a3, a4, σ => Re_isWord_12_B (Re_isWord_12 n) a1 a2 a3 a4 σ
noncomputable def Re_isWord (a1 : Int32) (a2 : Int32) (σ : gx_R) : Option (Int32 × gx_R) :=
  if ((σ 39 2) - a2) ≤ (5 : Int32) then
    Re_isWord_12 z_FU a1 a2 ((σ 39 2) - a2) (0 : Int32) σ
  else
    some ((0 : Int32), σ)
noncomputable def Re_wordHere_24_B (K24 : Int32 → Int32 → gx_R → Option (Int32 × gx_R)) (a1 : Int32) (a2 : Int32) (σ : gx_R) : Option (Int32 × gx_R) :=
  if (30 : Int32) ≤ a2 then
    some ((45 : Int32), σ)
  else
    z_bd (Re_isWord a2 a1 σ) (fun r8 σ9 =>
    if r8 = 0 then
      K24 a1 (a2 + 1) σ9
    else
      some (a2, σ9))
noncomputable def Re_wordHere_24 : Nat → Int32 → Int32 → gx_R → Option (Int32 × gx_R)
  | 0, _, _, _ => none
  | n + 1, a1, a2, σ => Re_wordHere_24_B (Re_wordHere_24 n) a1 a2 σ
noncomputable def Re_wordHere_22 (a1 : Int32) (σ : gx_R) : Option (Int32 × gx_R) :=
  Re_wordHere_24 z_FU a1 (0 : Int32) σ
noncomputable def Re_wordHere_3_B (K3 : Int32 → gx_R → Option (Int32 × gx_R)) (a1 : Int32) (σ : gx_R) : Option (Int32 × gx_R) :=
  if (σ 39 1) ≤ (σ 39 2) then
    Re_wordHere_22 a1 σ
  else
    z_ck (z_ix (σ 39 2) 300) (
    z_bd (Re_isLetter (σ 38 ((σ 39 2).toNatClampNeg)) σ) (fun r3 σ4 =>
    if r3 = 0 then
      Re_wordHere_22 a1 σ4
    else
      K3 a1 (gx_up σ4 39 2 ((σ4 39 2) + (1 : Int32)))))
noncomputable def Re_wordHere_3 : Nat → Int32 → gx_R → Option (Int32 × gx_R)
  | 0, _, _ => none
  | n + 1, a1, σ => Re_wordHere_3_B (Re_wordHere_3 n) a1 σ
noncomputable def Re_wordHere (σ : gx_R) : Option (Int32 × gx_R) :=
  Re_wordHere_3 z_FU (σ 39 2) σ
noncomputable def Re_isDigit (a0 : Int32) (σ : gx_R) : Option (Int32 × gx_R) :=
  if a0 < (48 : Int32) then
    some ((0 : Int32), σ)
  else
    if (57 : Int32) < a0 then
      some ((0 : Int32), σ)
    else
      some ((1 : Int32), σ)
noncomputable def Re_numberHere_35 (a1 : Int32) (σ : gx_R) : Option (Int32 × gx_R) :=
  z_ck (z_ix (σ 39 6) 301) (
  some ((30 : Int32), (gx_up σ 42 (σ 39 6).toNatClampNeg a1)))
noncomputable def Re_numberHere_2_B (K2 : Int32 → gx_R → Option (Int32 × gx_R)) (a1 : Int32) (σ : gx_R) : Option (Int32 × gx_R) :=
  if (σ 39 1) ≤ (σ 39 2) then
    Re_numberHere_35 a1 σ
  else
    z_ck (z_ix (σ 39 2) 300) (
    z_bd (Re_isDigit (σ 38 ((σ 39 2).toNatClampNeg)) σ) (fun r3 σ4 =>
    if r3 = 0 then
      Re_numberHere_35 a1 σ4
    else
      z_ck (z_ix (σ4 39 2) 300) (
      K2 (if (10000 : Int32) < (((a1 * (10 : Int32)) + (σ4 38 ((σ4 39 2).toNatClampNeg))) - (48 : Int32)) then (10000 : Int32) else (((a1 * (10 : Int32)) + (σ4 38 ((σ4 39 2).toNatClampNeg))) - (48 : Int32))) (gx_up σ4 39 2 ((σ4 39 2) + (1 : Int32))))))
noncomputable def Re_numberHere_2 : Nat → Int32 → gx_R → Option (Int32 × gx_R)
  | 0, _, _ => none
  | n + 1, a1, σ => Re_numberHere_2_B (Re_numberHere_2 n) a1 σ
noncomputable def Re_numberHere (σ : gx_R) : Option (Int32 × gx_R) :=
  Re_numberHere_2 z_FU (0 : Int32) σ
noncomputable def Re_signHere_24 (K30 : Int32 → Int32 → gx_R → Option (Int32 × gx_R)) (a1 : Int32) (a2 : Int32) (σ : gx_R) : Option (Int32 × gx_R) :=
  K30 a1 a2 (gx_up σ 39 2 ((σ 39 2) + (1 : Int32)))
noncomputable def Re_signHere_30 (a1 : Int32) (a2 : Int32) (σ : gx_R) : Option (Int32 × gx_R) :=
  if a1 = (35 : Int32) then
    some ((36 : Int32), σ)
  else
  if a1 = (40 : Int32) then
    some ((41 : Int32), σ)
  else
  if a1 = (41 : Int32) then
    some ((42 : Int32), σ)
  else
  if a1 = (42 : Int32) then
    some ((39 : Int32), σ)
  else
  if a1 = (43 : Int32) then
    some ((37 : Int32), σ)
  else
  if a1 = (45 : Int32) then
    some ((38 : Int32), σ)
  else
  if a1 = (47 : Int32) then
    some ((40 : Int32), σ)
  else
  if a1 = (59 : Int32) then
    some ((43 : Int32), σ)
  else
  if a1 = (60 : Int32) then
    if a2 = 0 then
      some ((31 : Int32), σ)
    else
      some ((32 : Int32), σ)
  else
  if a1 = (61 : Int32) then
    some ((35 : Int32), σ)
  else
  if a1 = (62 : Int32) then
    if a2 = 0 then
      some ((33 : Int32), σ)
    else
      some ((34 : Int32), σ)
  else
    some ((45 : Int32), σ)
noncomputable def Re_signHere_15 (a1 : Int32) (s0 : Int32) (σ : gx_R) : Option (Int32 × gx_R) :=
  if s0 = 0 then
    Re_signHere_30 a1 s0 σ
  else
    if a1 = (60 : Int32) then
      Re_signHere_24 (Re_signHere_30) a1 s0 σ
    else
      if a1 = (62 : Int32) then
        Re_signHere_24 (Re_signHere_30) a1 s0 σ
      else
        Re_signHere_30 a1 s0 σ
noncomputable def Re_signHere (a1 : Int32) (σ : gx_R) : Option (Int32 × gx_R) :=
  z_bd (Re_byteAt ((gx_up σ 39 2 ((σ 39 2) + (1 : Int32))) 39 2) (gx_up σ 39 2 ((σ 39 2) + (1 : Int32)))) (fun r1 σ2 =>
  if r1 = (61 : Int32) then
    Re_signHere_15 a1 (1 : Int32) σ2
  else
    Re_signHere_15 a1 (0 : Int32) σ2)
noncomputable def Re_split_61 (K68 : Int32 → gx_R → Option (Unit × gx_R)) (a1 : Int32) (s1 : Int32) (s2 : Int32) (σ : gx_R) : Option (Unit × gx_R) :=
  z_ck (z_ix s1 301) (
  K68 a1 (gx_up (gx_up σ 40 s1.toNatClampNeg s2) 39 6 (((gx_up σ 40 s1.toNatClampNeg s2) 39 6) + (1 : Int32))))
noncomputable def Re_split_28 (K68 : Int32 → gx_R → Option (Unit × gx_R)) (a1 : Int32) (σ : gx_R) : Option (Unit × gx_R) :=
  K68 a1 (gx_up σ 39 2 ((σ 39 2) + (1 : Int32)))
noncomputable def Re_split_68 (K8 : Int32 → gx_R → Option (Unit × gx_R)) (a1 : Int32) (σ : gx_R) : Option (Unit × gx_R) :=
  K8 (a1 + 1) σ
noncomputable def Re_split_70 (σ : gx_R) : Option (Unit × gx_R) :=
  z_ck (z_ix (σ 39 6) 301) (
  z_ck (z_ix ((gx_up σ 41 (σ 39 6).toNatClampNeg (σ 39 1)) 39 6) 301) (
  some ((), (gx_up (gx_up (gx_up σ 41 (σ 39 6).toNatClampNeg (σ 39 1)) 40 ((gx_up σ 41 (σ 39 6).toNatClampNeg (σ 39 1)) 39 6).toNatClampNeg (44 : Int32)) 39 6 (((gx_up (gx_up σ 41 (σ 39 6).toNatClampNeg (σ 39 1)) 40 ((gx_up σ 41 (σ 39 6).toNatClampNeg (σ 39 1)) 39 6).toNatClampNeg (44 : Int32)) 39 6) + (1 : Int32))))))
noncomputable def Re_split_8_B (K8 : Int32 → gx_R → Option (Unit × gx_R)) (a1 : Int32) (σ : gx_R) : Option (Unit × gx_R) :=
  if (300 : Int32) < a1 then
    Re_split_70 σ
  else
    if (σ 39 1) ≤ (σ 39 2) then
      Re_split_70 σ
    else
      z_ck (z_ix (σ 39 2) 300) (
      if (σ 38 ((σ 39 2).toNatClampNeg)) = (32 : Int32) then
        Re_split_28 (Re_split_68 K8) a1 σ
      else
        if (σ 38 ((σ 39 2).toNatClampNeg)) = (10 : Int32) then
          Re_split_28 (Re_split_68 K8) a1 σ
        else
          z_ck (z_ix (σ 39 6) 301) (
          z_bd (Re_isLetter (σ 38 ((σ 39 2).toNatClampNeg)) (gx_up σ 41 (σ 39 6).toNatClampNeg (σ 39 2))) (fun r7 σ8 =>
          if r7 = 0 then
            z_bd (Re_isDigit (σ 38 ((σ 39 2).toNatClampNeg)) σ8) (fun r11 σ12 =>
            if r11 = 0 then
              z_bd (Re_signHere (σ 38 ((σ 39 2).toNatClampNeg)) σ12) (fun r15 σ16 =>
              Re_split_61 (Re_split_68 K8) a1 ((gx_up σ 41 (σ 39 6).toNatClampNeg (σ 39 2)) 39 6) r15 σ16)
            else
              z_bd (Re_numberHere σ12) (fun r18 σ19 =>
              Re_split_61 (Re_split_68 K8) a1 ((gx_up σ 41 (σ 39 6).toNatClampNeg (σ 39 2)) 39 6) r18 σ19))
          else
            z_bd (Re_wordHere σ8) (fun r21 σ22 =>
            Re_split_61 (Re_split_68 K8) a1 ((gx_up σ 41 (σ 39 6).toNatClampNeg (σ 39 2)) 39 6) r21 σ22))))
noncomputable def Re_split_8 : Nat → Int32 → gx_R → Option (Unit × gx_R)
  | 0, _, _ => none
  | n + 1, a1, σ => Re_split_8_B (Re_split_8 n) a1 σ
noncomputable def Re_split (σ : gx_R) : Option (Unit × gx_R) :=
  Re_split_8 z_FU (0 : Int32) (gx_up (gx_up σ 39 2 (0 : Int32)) 39 6 (0 : Int32))
noncomputable def Re_refuse (a1 : Int32) (σ : gx_R) : Option (Int32 × gx_R) :=
  z_ck (z_ix ((gx_up σ 39 11 a1) 39 7) 301) (
  some ((0 : Int32), (gx_up (gx_up σ 39 11 a1) 39 12 ((gx_up σ 39 11 a1) 41 (((gx_up σ 39 11 a1) 39 7).toNatClampNeg)))))
noncomputable def Re_advance (σ : gx_R) : Option (Unit × gx_R) :=
  z_ck (z_ix ((gx_up σ 39 7 (if ((σ 39 6) - (1 : Int32)) < ((σ 39 7) + (1 : Int32)) then ((σ 39 6) - (1 : Int32)) else ((σ 39 7) + (1 : Int32)))) 39 7) 301) (
  some ((), (gx_up (gx_up σ 39 7 (if ((σ 39 6) - (1 : Int32)) < ((σ 39 7) + (1 : Int32)) then ((σ 39 6) - (1 : Int32)) else ((σ 39 7) + (1 : Int32)))) 39 8 ((gx_up σ 39 7 (if ((σ 39 6) - (1 : Int32)) < ((σ 39 7) + (1 : Int32)) then ((σ 39 6) - (1 : Int32)) else ((σ 39 7) + (1 : Int32)))) 40 (((gx_up σ 39 7 (if ((σ 39 6) - (1 : Int32)) < ((σ 39 7) + (1 : Int32)) then ((σ 39 6) - (1 : Int32)) else ((σ 39 7) + (1 : Int32)))) 39 7).toNatClampNeg)))))
noncomputable def Re_plainNumber (σ : gx_R) : Option (Int32 × gx_R) :=
  z_ck (z_ix (σ 39 7) 301) (
  if (σ 42 ((σ 39 7).toNatClampNeg)) ≤ (9999 : Int32) then
    z_ck (z_ix (σ 39 7) 301) (
    z_bd (Te_put (((σ 42 ((σ 39 7).toNatClampNeg)) * (64 : Int32)) + (30 : Int32)) σ) (fun _ σ5 =>
    z_bd (Re_advance σ5) (fun _ σ8 =>
    some ((1 : Int32), σ8))))
  else
    z_bd (Re_refuse (2 : Int32) σ) (fun r10 σ11 =>
    z_ck (z_bo r10) (
    some (r10, σ11))))
noncomputable def Re_name_19 (σ : gx_R) : Option (Int32 × gx_R) :=
  z_bd (Re_refuse (5 : Int32) σ) (fun r11 σ12 =>
  z_ck (z_bo r11) (
  some (r11, σ12)))
noncomputable def Re_name (σ : gx_R) : Option (Int32 × gx_R) :=
  if (σ 39 9) < 0 then
    Re_name_19 σ
  else
    if (4 : Int32) ≤ (σ 39 9) then
      Re_name_19 σ
    else
      z_ck (z_ix (σ 39 9) 4) (
      if (((z_nmAt (σ 39 9)) >>> (((σ 39 8) - (21 : Int32)) &&& 31)) &&& (1 : Int32)) = 0 then
        Re_name_19 σ
      else
        z_bd (Te_put (σ 39 8) σ) (fun _ σ6 =>
        z_bd (Re_advance σ6) (fun _ σ9 =>
        some ((1 : Int32), σ9))))
noncomputable def Re_take (a1 : Int32) (σ : gx_R) : Option (Int32 × gx_R) :=
  if (σ 39 8) = a1 then
    z_bd (Re_advance σ) (fun _ σ3 =>
    some ((1 : Int32), σ3))
  else
    z_bd (Re_refuse (1 : Int32) σ) (fun r5 σ6 =>
    z_ck (z_bo r5) (
    some (r5, σ6)))
noncomputable def Re_ask_40 (rc : Nat → Int32 → gx_R → Option (Int32 × gx_R)) (σ : gx_R) : Option (Int32 × gx_R) :=
  z_bd (Re_refuse (1 : Int32) σ) (fun r33 σ34 =>
  z_ck (z_bo r33) (
  some (r33, σ34)))
noncomputable def Re_ask_E (rc : Nat → Int32 → gx_R → Option (Int32 × gx_R)) (a1 : Int32) (σ : gx_R) : Option (Int32 × gx_R) :=
  if (σ 39 8) = (20 : Int32) then
    if a1 < (8 : Int32) then
      z_bd (Re_advance σ) (fun _ σ4 =>
      z_bd (rc 0 (a1 + (1 : Int32)) σ4) (fun r6 σ7 =>
      z_bd (Te_put (20 : Int32) σ7) (fun _ σ10 =>
      z_ck (z_bo r6) (
      some (r6, σ10)))))
    else
      z_bd (Re_refuse (3 : Int32) σ) (fun r13 σ14 =>
      z_ck (z_bo r13) (
      some (r13, σ14)))
  else
    z_bd (rc 6 a1 σ) (fun r17 σ18 =>
    if r17 = 0 then
      some ((0 : Int32), σ18)
    else
      if (σ18 39 8) < (31 : Int32) then
        Re_ask_40 rc σ18
      else
        if (σ18 39 8) ≤ (36 : Int32) then
          z_bd (Re_advance σ18) (fun _ σ24 =>
          z_bd (rc 6 a1 σ24) (fun r26 σ27 =>
          z_bd (Te_put (σ18 39 8) σ27) (fun _ σ30 =>
          z_ck (z_bo r26) (
          some (r26, σ30)))))
        else
          Re_ask_40 rc σ18)
noncomputable def Re_both_6_B (rc : Nat → Int32 → gx_R → Option (Int32 × gx_R)) (K6 : Int32 → Int32 → Int32 → gx_R → Option (Int32 × gx_R)) (a1 : Int32) (a2 : Int32) (a3 : Int32) (σ : gx_R) : Option (Int32 × gx_R) :=
  if (300 : Int32) ≤ a3 then
    z_ck (z_bo a2) (
    some (a2, σ))
  else
    if a2 = 0 then
      z_ck (z_bo a2) (
      some (a2, σ))
    else
      if (σ 39 8) = (19 : Int32) then
        z_bd (Re_advance σ) (fun _ σ10 =>
        z_bd (rc 0 a1 σ10) (fun r12 σ13 =>
        z_bd (Te_put (19 : Int32) σ13) (fun _ σ16 =>
        K6 a1 r12 (a3 + 1) σ16)))
      else
        z_ck (z_bo a2) (
        some (a2, σ))
noncomputable def Re_both_6 (rc : Nat → Int32 → gx_R → Option (Int32 × gx_R)) : Nat → Int32 → Int32 → Int32 → gx_R → Option (Int32 × gx_R)
  | 0, _, _, _, _ => none
  | n + 1, a1, a2, a3, σ => Re_both_6_B rc (Re_both_6 rc n) a1 a2 a3 σ
noncomputable def Re_both_E (rc : Nat → Int32 → gx_R → Option (Int32 × gx_R)) (a1 : Int32) (σ : gx_R) : Option (Int32 × gx_R) :=
  z_bd (rc 0 a1 σ) (fun r1 σ2 =>
  Re_both_6 rc z_FU a1 r1 (0 : Int32) σ2)
noncomputable def Re_choice_E (rc : Nat → Int32 → gx_R → Option (Int32 × gx_R)) (a1 : Int32) (σ : gx_R) : Option (Int32 × gx_R) :=
  z_bd (Re_advance σ) (fun _ σ2 =>
  z_bd (rc 3 a1 σ2) (fun r4 σ5 =>
  if r4 = 0 then
    some ((0 : Int32), σ5)
  else
    z_bd (Re_take (15 : Int32) σ5) (fun r8 σ9 =>
    if r8 = 0 then
      some ((0 : Int32), σ9)
    else
      z_bd (Te_put (15 : Int32) σ9) (fun _ σ13 =>
      z_bd (rc 6 a1 σ13) (fun r15 σ16 =>
      if r15 = 0 then
        some ((0 : Int32), σ16)
      else
        z_bd (Re_take (16 : Int32) σ16) (fun r19 σ20 =>
        if r19 = 0 then
          some ((0 : Int32), σ20)
        else
          z_bd (Te_put (16 : Int32) σ20) (fun _ σ24 =>
          z_bd (Te_goOnHere (σ9 43 7) σ24) (fun _ σ27 =>
          z_bd (rc 6 a1 σ27) (fun r29 σ30 =>
          if r29 = 0 then
            some ((0 : Int32), σ30)
          else
            z_bd (Re_take (17 : Int32) σ30) (fun r33 σ34 =>
            if r33 = 0 then
              some ((0 : Int32), σ34)
            else
              z_bd (Te_goOnHere (σ20 43 7) σ34) (fun _ σ38 =>
              some ((1 : Int32), σ38))))))))))))
noncomputable def Re_either_6_B (rc : Nat → Int32 → gx_R → Option (Int32 × gx_R)) (K6 : Int32 → Int32 → Int32 → gx_R → Option (Int32 × gx_R)) (a1 : Int32) (a2 : Int32) (a3 : Int32) (σ : gx_R) : Option (Int32 × gx_R) :=
  if (300 : Int32) ≤ a3 then
    z_ck (z_bo a2) (
    some (a2, σ))
  else
    if a2 = 0 then
      z_ck (z_bo a2) (
      some (a2, σ))
    else
      if (σ 39 8) = (18 : Int32) then
        z_bd (Re_advance σ) (fun _ σ10 =>
        z_bd (rc 1 a1 σ10) (fun r12 σ13 =>
        z_bd (Te_put (18 : Int32) σ13) (fun _ σ16 =>
        K6 a1 r12 (a3 + 1) σ16)))
      else
        z_ck (z_bo a2) (
        some (a2, σ))
noncomputable def Re_either_6 (rc : Nat → Int32 → gx_R → Option (Int32 × gx_R)) : Nat → Int32 → Int32 → Int32 → gx_R → Option (Int32 × gx_R)
  | 0, _, _, _, _ => none
  | n + 1, a1, a2, a3, σ => Re_either_6_B rc (Re_either_6 rc n) a1 a2 a3 σ
noncomputable def Re_either_E (rc : Nat → Int32 → gx_R → Option (Int32 × gx_R)) (a1 : Int32) (σ : gx_R) : Option (Int32 × gx_R) :=
  z_bd (rc 1 a1 σ) (fun r1 σ2 =>
  Re_either_6 rc z_FU a1 r1 (0 : Int32) σ2)
noncomputable def Re_one_58 (rc : Nat → Int32 → gx_R → Option (Int32 × gx_R)) (a1 : Int32) (s0 : Int32) (σ : gx_R) : Option (Int32 × gx_R) :=
  z_bd (Re_advance σ) (fun _ σ31 =>
  if s0 = 0 then
    z_bd (rc 6 (a1 + (1 : Int32)) σ31) (fun r34 σ35 =>
    if r34 = 0 then
      some ((0 : Int32), σ35)
    else
      z_bd (Re_take (42 : Int32) σ35) (fun r38 σ39 =>
      if r38 = 0 then
        some ((0 : Int32), σ39)
      else
        some ((1 : Int32), σ39)))
  else
    z_bd (rc 4 (a1 + (1 : Int32)) σ31) (fun r42 σ43 =>
    z_bd (Te_put (46 : Int32) σ43) (fun _ σ46 =>
    z_ck (z_bo r42) (
    some (r42, σ46)))))
noncomputable def Re_one_34 (rc : Nat → Int32 → gx_R → Option (Int32 × gx_R)) (a1 : Int32) (σ : gx_R) : Option (Int32 × gx_R) :=
  if a1 < (8 : Int32) then
    if (σ 39 8) = (14 : Int32) then
      z_bd (rc 2 (a1 + (1 : Int32)) σ) (fun r21 σ22 =>
      z_ck (z_bo r21) (
      some (r21, σ22)))
    else
      if (σ 39 8) = (38 : Int32) then
        Re_one_58 rc a1 (1 : Int32) σ
      else
        Re_one_58 rc a1 (0 : Int32) σ
  else
    z_bd (Re_refuse (3 : Int32) σ) (fun r26 σ27 =>
    z_ck (z_bo r26) (
    some (r26, σ27)))
noncomputable def Re_one_18 (rc : Nat → Int32 → gx_R → Option (Int32 × gx_R)) (a1 : Int32) (σ : gx_R) : Option (Int32 × gx_R) :=
  if (σ 39 8) = (41 : Int32) then
    Re_one_34 rc a1 σ
  else
    if (σ 39 8) = (38 : Int32) then
      Re_one_34 rc a1 σ
    else
      if (σ 39 8) = (14 : Int32) then
        Re_one_34 rc a1 σ
      else
        z_bd (Re_refuse (1 : Int32) σ) (fun r15 σ16 =>
        z_ck (z_bo r15) (
        some (r15, σ16)))
noncomputable def Re_one_E (rc : Nat → Int32 → gx_R → Option (Int32 × gx_R)) (a1 : Int32) (σ : gx_R) : Option (Int32 × gx_R) :=
  if (σ 39 8) = (30 : Int32) then
    z_bd (Re_plainNumber σ) (fun r2 σ3 =>
    z_ck (z_bo r2) (
    some (r2, σ3)))
  else
    if (σ 39 8) < (21 : Int32) then
      Re_one_18 rc a1 σ
    else
      if (30 : Int32) ≤ (σ 39 8) then
        Re_one_18 rc a1 σ
      else
        z_bd (Re_name σ) (fun r8 σ9 =>
        z_ck (z_bo r8) (
        some (r8, σ9)))
noncomputable def Re_product_19 (rc : Nat → Int32 → gx_R → Option (Int32 × gx_R)) (K6 : Int32 → Int32 → Int32 → gx_R → Option (Int32 × gx_R)) (a1 : Int32) (a3 : Int32) (σ : gx_R) : Option (Int32 × gx_R) :=
  z_bd (Re_advance σ) (fun _ σ12 =>
  z_bd (rc 4 a1 σ12) (fun r14 σ15 =>
  z_bd (Te_put (σ 39 8) σ15) (fun _ σ18 =>
  K6 a1 r14 (a3 + 1) σ18)))
noncomputable def Re_product_6_B (rc : Nat → Int32 → gx_R → Option (Int32 × gx_R)) (K6 : Int32 → Int32 → Int32 → gx_R → Option (Int32 × gx_R)) (a1 : Int32) (a2 : Int32) (a3 : Int32) (σ : gx_R) : Option (Int32 × gx_R) :=
  if (300 : Int32) ≤ a3 then
    z_ck (z_bo a2) (
    some (a2, σ))
  else
    if a2 = 0 then
      z_ck (z_bo a2) (
      some (a2, σ))
    else
      if (σ 39 8) = (39 : Int32) then
        Re_product_19 rc K6 a1 a3 σ
      else
        if (σ 39 8) = (40 : Int32) then
          Re_product_19 rc K6 a1 a3 σ
        else
          z_ck (z_bo a2) (
          some (a2, σ))
noncomputable def Re_product_6 (rc : Nat → Int32 → gx_R → Option (Int32 × gx_R)) : Nat → Int32 → Int32 → Int32 → gx_R → Option (Int32 × gx_R)
  | 0, _, _, _, _ => none
  | n + 1, a1, a2, a3, σ => Re_product_6_B rc (Re_product_6 rc n) a1 a2 a3 σ
noncomputable def Re_product_E (rc : Nat → Int32 → gx_R → Option (Int32 × gx_R)) (a1 : Int32) (σ : gx_R) : Option (Int32 × gx_R) :=
  z_bd (rc 4 a1 σ) (fun r1 σ2 =>
  Re_product_6 rc z_FU a1 r1 (0 : Int32) σ2)
noncomputable def Re_sum_19 (rc : Nat → Int32 → gx_R → Option (Int32 × gx_R)) (K6 : Int32 → Int32 → Int32 → gx_R → Option (Int32 × gx_R)) (a1 : Int32) (a3 : Int32) (σ : gx_R) : Option (Int32 × gx_R) :=
  z_bd (Re_advance σ) (fun _ σ12 =>
  z_bd (rc 5 a1 σ12) (fun r14 σ15 =>
  z_bd (Te_put (σ 39 8) σ15) (fun _ σ18 =>
  K6 a1 r14 (a3 + 1) σ18)))
noncomputable def Re_sum_6_B (rc : Nat → Int32 → gx_R → Option (Int32 × gx_R)) (K6 : Int32 → Int32 → Int32 → gx_R → Option (Int32 × gx_R)) (a1 : Int32) (a2 : Int32) (a3 : Int32) (σ : gx_R) : Option (Int32 × gx_R) :=
  if (300 : Int32) ≤ a3 then
    z_ck (z_bo a2) (
    some (a2, σ))
  else
    if a2 = 0 then
      z_ck (z_bo a2) (
      some (a2, σ))
    else
      if (σ 39 8) = (37 : Int32) then
        Re_sum_19 rc K6 a1 a3 σ
      else
        if (σ 39 8) = (38 : Int32) then
          Re_sum_19 rc K6 a1 a3 σ
        else
          z_ck (z_bo a2) (
          some (a2, σ))
noncomputable def Re_sum_6 (rc : Nat → Int32 → gx_R → Option (Int32 × gx_R)) : Nat → Int32 → Int32 → Int32 → gx_R → Option (Int32 × gx_R)
  | 0, _, _, _, _ => none
  | n + 1, a1, a2, a3, σ => Re_sum_6_B rc (Re_sum_6 rc n) a1 a2 a3 σ
noncomputable def Re_sum_E (rc : Nat → Int32 → gx_R → Option (Int32 × gx_R)) (a1 : Int32) (σ : gx_R) : Option (Int32 × gx_R) :=
  z_bd (rc 5 a1 σ) (fun r1 σ2 =>
  Re_sum_6 rc z_FU a1 r1 (0 : Int32) σ2)
noncomputable def Re_rec : Nat → Nat → Int32 → gx_R → Option (Int32 × gx_R)
  | 0, _, _, _ => none
  | d + 1, w, a, σ => match w with
    | 0 => Re_ask_E (Re_rec d) a σ
    | 1 => Re_both_E (Re_rec d) a σ
    | 2 => Re_choice_E (Re_rec d) a σ
    | 3 => Re_either_E (Re_rec d) a σ
    | 4 => Re_one_E (Re_rec d) a σ
    | 5 => Re_product_E (Re_rec d) a σ
    | _ => Re_sum_E (Re_rec d) a σ
noncomputable def Re_ask : Int32 → gx_R → Option (Int32 × gx_R) := Re_rec 120 0
noncomputable def Re_both : Int32 → gx_R → Option (Int32 × gx_R) := Re_rec 120 1
noncomputable def Re_choice : Int32 → gx_R → Option (Int32 × gx_R) := Re_rec 120 2
noncomputable def Re_either : Int32 → gx_R → Option (Int32 × gx_R) := Re_rec 120 3
noncomputable def Re_one : Int32 → gx_R → Option (Int32 × gx_R) := Re_rec 120 4
noncomputable def Re_product : Int32 → gx_R → Option (Int32 × gx_R) := Re_rec 120 5
noncomputable def Re_sum : Int32 → gx_R → Option (Int32 × gx_R) := Re_rec 120 6
noncomputable def Re_lawOf (a1 : Int32) (σ : gx_R) : Option (Int32 × gx_R) :=
  z_ck (z_ix a1 4) (
  z_bd (Re_sum (0 : Int32) (gx_up (gx_up σ 39 9 a1) 48 a1.toNatClampNeg ((gx_up σ 39 9 a1) 43 7))) (fun r2 σ3 =>
  z_bd (Te_put (43 : Int32) σ3) (fun _ σ6 =>
  z_ck (z_bo r2) (
  some (r2, σ6)))))
noncomputable def Re_numberOf_40 (σ : gx_R) : Option (Int32 × gx_R) :=
  z_bd (Re_advance σ) (fun _ σ19 =>
  some ((1 : Int32), σ19))
noncomputable def Re_numberOf_22 (σ : gx_R) : Option (Int32 × gx_R) :=
  z_bd (Re_refuse (2 : Int32) σ) (fun r14 σ15 =>
  z_ck (z_bo r14) (
  some (r14, σ15)))
noncomputable def Re_numberOf (b1 : Nat) (a2 : Int32) (a3 : Int32) (a4 : Int32) (σ : gx_R) : Option (Int32 × gx_R) :=
  if (σ 39 8) = (30 : Int32) then
    z_ck (z_ix (σ 39 7) 301) (
    if (σ 42 ((σ 39 7).toNatClampNeg)) < a3 then
      Re_numberOf_22 σ
    else
      z_ck (z_ix (σ 39 7) 301) (
      if (σ 42 ((σ 39 7).toNatClampNeg)) ≤ a4 then
        if a2 < 0 then
          Re_numberOf_40 σ
        else
          if (nI 24) ≤ a2 then
            Re_numberOf_40 σ
          else
            z_ck (z_ix (σ 39 7) 301) (
            z_ck (z_ix a2 24) (
            Re_numberOf_40 (gx_up σ b1 a2.toNatClampNeg (σ 42 ((σ 39 7).toNatClampNeg)))))
      else
        Re_numberOf_22 σ))
  else
    z_bd (Re_refuse (1 : Int32) σ) (fun r10 σ11 =>
    z_ck (z_bo r10) (
    some (r10, σ11)))
noncomputable def Re_deed_17 (a1 : Int32) (a2 : Int32) (s2 : Int32) (s3 : Int32) (s4 : Int32) (σ : gx_R) : Option (Int32 × gx_R) :=
  z_bd (Re_numberOf 45 s2 s3 s4 σ) (fun r3 σ4 =>
  if r3 = 0 then
    some ((0 : Int32), σ4)
  else
    if a1 = (4 : Int32) then
      z_bd (Re_take (10 : Int32) σ4) (fun r8 σ9 =>
      if r8 = 0 then
        some ((0 : Int32), σ9)
      else
        z_bd (Re_numberOf 46 a2 (0 : Int32) (5 : Int32) σ9) (fun r12 σ13 =>
        if r12 = 0 then
          some ((0 : Int32), σ13)
        else
          some ((1 : Int32), σ13)))
    else
    if a1 = (5 : Int32) then
      z_bd (Re_take (11 : Int32) σ4) (fun r17 σ18 =>
      if r17 = 0 then
        some ((0 : Int32), σ18)
      else
        z_bd (Re_numberOf 46 a2 (0 : Int32) (7 : Int32) σ18) (fun r21 σ22 =>
        if r21 = 0 then
          some ((0 : Int32), σ22)
        else
          some ((1 : Int32), σ22)))
    else
    if a1 = (8 : Int32) then
      z_bd (Re_take (12 : Int32) σ4) (fun r26 σ27 =>
      if r26 = 0 then
        some ((0 : Int32), σ27)
      else
        z_bd (Re_numberOf 46 a2 (0 : Int32) (7 : Int32) σ27) (fun r30 σ31 =>
        if r30 = 0 then
          some ((0 : Int32), σ31)
        else
          z_bd (Re_take (13 : Int32) σ31) (fun r34 σ35 =>
          if r34 = 0 then
            some ((0 : Int32), σ35)
          else
            z_bd (Re_numberOf 47 a2 (1 : Int32) (99 : Int32) σ35) (fun r38 σ39 =>
            if r38 = 0 then
              some ((0 : Int32), σ39)
            else
              some ((1 : Int32), σ39)))))
    else
      some ((1 : Int32), σ4))
noncomputable def Re_deed_11 (a1 : Int32) (a2 : Int32) (s2 : Int32) (s3 : Int32) (σ : gx_R) : Option (Int32 × gx_R) :=
  if a1 = (9 : Int32) then
    Re_deed_17 a1 a2 s2 s3 (60 : Int32) σ
  else
    Re_deed_17 a1 a2 s2 s3 (7 : Int32) σ
noncomputable def Re_deed (a1 : Int32) (a2 : Int32) (σ : gx_R) : Option (Int32 × gx_R) :=
  if a1 = (9 : Int32) then
    Re_deed_11 a1 a2 a2 (1 : Int32) σ
  else
    Re_deed_11 a1 a2 a2 (0 : Int32) σ
noncomputable def Re_clause_60 (s0 : Int32) (σ : gx_R) : Option (Int32 × gx_R) :=
  if s0 = 0 then
    some ((0 : Int32), σ)
  else
    z_bd (Re_take (43 : Int32) σ) (fun r30 σ31 =>
    if r30 = 0 then
      some ((0 : Int32), σ31)
    else
      some ((1 : Int32), σ31))
noncomputable def Re_clause_28 (a1 : Int32) (a2 : Int32) (σ : gx_R) : Option (Int32 × gx_R) :=
  if a2 < (24 : Int32) then
    z_ck (z_ix a2 24) (
    z_bd (Re_advance (gx_up (gx_up σ 43 4 (a2 + (1 : Int32))) 44 a2.toNatClampNeg a1)) (fun _ σ16 =>
    if (4 : Int32) ≤ a1 then
      z_bd (Re_deed a1 a2 σ16) (fun r19 σ20 =>
      Re_clause_60 r19 σ20)
    else
      z_bd (Re_lawOf a1 σ16) (fun r22 σ23 =>
      Re_clause_60 r22 σ23)))
  else
    z_bd (Re_refuse (6 : Int32) σ) (fun r25 σ26 =>
    z_ck (z_bo r25) (
    some (r25, σ26)))
noncomputable def Re_clause (σ : gx_R) : Option (Int32 × gx_R) :=
  if (σ 39 8) ≤ (9 : Int32) then
    if (4 : Int32) ≤ (σ 39 8) then
      Re_clause_28 (σ 39 8) (σ 43 4) σ
    else
      z_ck (z_ix (σ 39 8) 4) (
      if (σ 48 ((σ 39 8).toNatClampNeg)) = (-1 : Int32) then
        Re_clause_28 (σ 39 8) (σ 43 4) σ
      else
        z_bd (Re_refuse (4 : Int32) σ) (fun r5 σ6 =>
        z_ck (z_bo r5) (
        some (r5, σ6))))
  else
    z_bd (Re_refuse (1 : Int32) σ) (fun r9 σ10 =>
    z_ck (z_bo r9) (
    some (r9, σ10)))
noncomputable def Re_read_29_B (K29 : Int32 → gx_R → Option (Int32 × gx_R)) (a2 : Int32) (σ : gx_R) : Option (Int32 × gx_R) :=
  if (300 : Int32) < a2 then
    some ((1 : Int32), σ)
  else
    if (σ 39 8) = (44 : Int32) then
      some ((1 : Int32), σ)
    else
      z_bd (Re_clause σ) (fun r9 σ10 =>
      if r9 = 0 then
        some ((0 : Int32), σ10)
      else
        K29 (a2 + 1) σ10)
noncomputable def Re_read_29 : Nat → Int32 → gx_R → Option (Int32 × gx_R)
  | 0, _, _ => none
  | n + 1, a2, σ => Re_read_29_B (Re_read_29 n) a2 σ
noncomputable def Re_read (a1 : Int32) (σ : gx_R) : Option (Int32 × gx_R) :=
  z_bd (Re_split (gx_up σ 39 1 (if (nI 300) < a1 then (nI 300) else a1))) (fun _ σ2 =>
  z_bd (Te_clear (gx_up (gx_up σ2 39 11 (0 : Int32)) 39 12 (-1 : Int32))) (fun _ σ5 =>
  Re_read_29 z_FU (0 : Int32) (gx_up (gx_up σ5 39 7 (0 : Int32)) 39 8 ((gx_up σ5 39 7 (0 : Int32)) 40 ((0 : Int32).toNatClampNeg)))))
noncomputable def Sf_person_16 (K17 : Int32 → Int32 → Int32 → gx_R → Option (Int32 × gx_R)) (a1 : Int32) (a2 : Int32) (σ : gx_R) : Option (Int32 × gx_R) :=
  K17 a1 a2 (0 : Int32) σ
noncomputable def Sf_person_17 (a1 : Int32) (a2 : Int32) (s0 : Int32) (σ : gx_R) : Option (Int32 × gx_R) :=
  if s0 = 0 then
    some ((-1 : Int32), σ)
  else
    if (σ 2 0) < (8 : Int32) then
      z_ck (z_ix (σ 2 0) 8) (
      z_ck (z_ix ((gx_up σ 3 (σ 2 0).toNatClampNeg a1) 2 0) 8) (
      some ((((gx_up (gx_up (gx_up σ 3 (σ 2 0).toNatClampNeg a1) 4 ((gx_up σ 3 (σ 2 0).toNatClampNeg a1) 2 0).toNatClampNeg a2) 2 0 (((gx_up (gx_up σ 3 (σ 2 0).toNatClampNeg a1) 4 ((gx_up σ 3 (σ 2 0).toNatClampNeg a1) 2 0).toNatClampNeg a2) 2 0) + (1 : Int32))) 2 0) - (1 : Int32)), (gx_up (gx_up (gx_up σ 3 (σ 2 0).toNatClampNeg a1) 4 ((gx_up σ 3 (σ 2 0).toNatClampNeg a1) 2 0).toNatClampNeg a2) 2 0 (((gx_up (gx_up σ 3 (σ 2 0).toNatClampNeg a1) 4 ((gx_up σ 3 (σ 2 0).toNatClampNeg a1) 2 0).toNatClampNeg a2) 2 0) + (1 : Int32))))))
    else
      some ((-1 : Int32), σ)
noncomputable def Sf_person (a1 : Int32) (a2 : Int32) (σ : gx_R) : Option (Int32 × gx_R) :=
  if a1 < 0 then
    Sf_person_16 (Sf_person_17) a1 a2 σ
  else
    if (9 : Int32) < a1 then
      Sf_person_16 (Sf_person_17) a1 a2 σ
    else
      if a2 < 0 then
        Sf_person_16 (Sf_person_17) a1 a2 σ
      else
        if (9 : Int32) < a2 then
          Sf_person_16 (Sf_person_17) a1 a2 σ
        else
          Sf_person_17 a1 a2 (1 : Int32) σ
noncomputable def Sf_work_17 (K18 : Int32 → Int32 → Int32 → gx_R → Option (Int32 × gx_R)) (a1 : Int32) (a2 : Int32) (σ : gx_R) : Option (Int32 × gx_R) :=
  K18 a1 a2 (0 : Int32) σ
noncomputable def Sf_work_18 (a1 : Int32) (a2 : Int32) (s0 : Int32) (σ : gx_R) : Option (Int32 × gx_R) :=
  if s0 = 0 then
    some ((-1 : Int32), σ)
  else
    if (σ 2 1) < (6 : Int32) then
      z_ck (z_ix (σ 2 1) 6) (
      z_ck (z_ix ((gx_up σ 7 (σ 2 1).toNatClampNeg a1) 2 1) 6) (
      some ((((gx_up (gx_up (gx_up σ 7 (σ 2 1).toNatClampNeg a1) 8 ((gx_up σ 7 (σ 2 1).toNatClampNeg a1) 2 1).toNatClampNeg a2) 2 1 (((gx_up (gx_up σ 7 (σ 2 1).toNatClampNeg a1) 8 ((gx_up σ 7 (σ 2 1).toNatClampNeg a1) 2 1).toNatClampNeg a2) 2 1) + (1 : Int32))) 2 1) - (1 : Int32)), (gx_up (gx_up (gx_up σ 7 (σ 2 1).toNatClampNeg a1) 8 ((gx_up σ 7 (σ 2 1).toNatClampNeg a1) 2 1).toNatClampNeg a2) 2 1 (((gx_up (gx_up σ 7 (σ 2 1).toNatClampNeg a1) 8 ((gx_up σ 7 (σ 2 1).toNatClampNeg a1) 2 1).toNatClampNeg a2) 2 1) + (1 : Int32))))))
    else
      some ((-1 : Int32), σ)
noncomputable def Sf_work (a1 : Int32) (a2 : Int32) (σ : gx_R) : Option (Int32 × gx_R) :=
  if a1 < (1 : Int32) then
    Sf_work_17 (Sf_work_18) a1 a2 σ
  else
    if (99 : Int32) < a1 then
      Sf_work_17 (Sf_work_18) a1 a2 σ
    else
      if a2 < 0 then
        Sf_work_17 (Sf_work_18) a1 a2 σ
      else
        if (9 : Int32) < a2 then
          Sf_work_17 (Sf_work_18) a1 a2 σ
        else
          Sf_work_18 a1 a2 (1 : Int32) σ
noncomputable def Sf_may (a1 : Int32) (a2 : Int32) (σ : gx_R) : Option (Int32 × gx_R) :=
  z_bd (Fo_areUnlike a1 a2 σ) (fun r1 σ2 =>
  if r1 = 0 then
    some ((0 : Int32), σ2)
  else
    z_ck (z_ix a1 8) (
    if (((σ2 5 a1.toNatClampNeg) >>> (a2 &&& 31)) &&& (1 : Int32)) = (1 : Int32) then
      some ((0 : Int32), σ2)
    else
      z_ck (z_ix a1 8) (
      z_ck (z_ix a1 8) (
      some ((1 : Int32), (gx_up σ2 5 a1.toNatClampNeg ((σ2 5 a1.toNatClampNeg) ||| ((1 : Int32) <<< (a2 &&& 31)))))))))
noncomputable def Sf_hears (a1 : Int32) (a2 : Int32) (σ : gx_R) : Option (Int32 × gx_R) :=
  z_bd (Fo_areUnlike a1 a2 σ) (fun r1 σ2 =>
  if r1 = 0 then
    some ((0 : Int32), σ2)
  else
    z_ck (z_ix a1 8) (
    if (((σ2 6 a1.toNatClampNeg) >>> (a2 &&& 31)) &&& (1 : Int32)) = (1 : Int32) then
      some ((0 : Int32), σ2)
    else
      z_ck (z_ix a1 8) (
      z_ck (z_ix a1 8) (
      z_ck (z_ix a2 8) (
      z_ck (z_ix a2 8) (
      some ((1 : Int32), (gx_up (gx_up σ2 6 a1.toNatClampNeg ((σ2 6 a1.toNatClampNeg) ||| ((1 : Int32) <<< (a2 &&& 31)))) 6 a2.toNatClampNeg (((gx_up σ2 6 a1.toNatClampNeg ((σ2 6 a1.toNatClampNeg) ||| ((1 : Int32) <<< (a2 &&& 31)))) 6 a2.toNatClampNeg) ||| ((1 : Int32) <<< (a1 &&& 31)))))))))))
noncomputable def Sf_isDoing (a1 : Int32) (a2 : Int32) (σ : gx_R) : Option (Int32 × gx_R) :=
  z_bd (Fo_isPerson a1 σ) (fun r1 σ2 =>
  if r1 = 0 then
    some ((0 : Int32), σ2)
  else
    z_ck (z_ix a1 8) (
    if (σ2 10 a1.toNatClampNeg) = a2 then
      some ((1 : Int32), σ2)
    else
      some ((0 : Int32), σ2)))
noncomputable def Sf_wake (a1 : Int32) (a2 : Int32) (σ : gx_R) : Option (Int32 × gx_R) :=
  z_bd (Sf_isDoing a1 (0 : Int32) σ) (fun r1 σ2 =>
  if r1 = 0 then
    some ((0 : Int32), σ2)
  else
    z_bd (Fo_isWork a2 σ2) (fun r5 σ6 =>
    if r5 = 0 then
      some ((0 : Int32), σ6)
    else
      z_bd (St_push σ6) (fun _ σ10 =>
      z_bd (Ni_begin 9 a1 (1 : Int32) a2 σ10) (fun _ σ13 =>
      some ((1 : Int32), σ13)))))
noncomputable def Sf_sleep (a1 : Int32) (a2 : Int32) (σ : gx_R) : Option (Int32 × gx_R) :=
  z_bd (Sf_isDoing a1 (0 : Int32) σ) (fun r1 σ2 =>
  if r1 = 0 then
    some ((0 : Int32), σ2)
  else
    z_bd (Fo_areUnlike a1 a2 σ2) (fun r5 σ6 =>
    if r5 = 0 then
      some ((0 : Int32), σ6)
    else
      z_ck (z_ix a1 8) (
      if (((σ6 5 a1.toNatClampNeg) >>> (a2 &&& 31)) &&& (1 : Int32)) = 0 then
        some ((0 : Int32), σ6)
      else
        z_bd (St_push σ6) (fun _ σ12 =>
        z_bd (Ni_begin 9 a1 (2 : Int32) a2 σ12) (fun _ σ15 =>
        some ((1 : Int32), σ15))))))
noncomputable def Sf_idle (a1 : Int32) (σ : gx_R) : Option (Int32 × gx_R) :=
  z_bd (Fo_isPerson a1 σ) (fun r1 σ2 =>
  if r1 = 0 then
    some ((0 : Int32), σ2)
  else
    z_bd (Sf_isDoing a1 (0 : Int32) σ2) (fun r5 σ6 =>
    if r5 = 0 then
      z_bd (St_push σ6) (fun _ σ10 =>
      z_bd (Ni_makeIdle 9 ((1 : Int32) <<< (a1 &&& 31)) σ10) (fun _ σ13 =>
      some ((1 : Int32), σ13)))
    else
      some ((0 : Int32), σ6)))
noncomputable def Sf_call (a1 : Int32) (σ : gx_R) : Option (Int32 × gx_R) :=
  z_bd (Sf_isDoing a1 (2 : Int32) σ) (fun r1 σ2 =>
  if r1 = 0 then
    some ((-1 : Int32), σ2)
  else
    z_bd (St_push σ2) (fun _ σ6 =>
    z_bd (Cl_wokenBy a1 σ6) (fun r8 σ9 =>
    z_bd (Ni_makeIdle 9 r8 σ9) (fun _ σ12 =>
    z_bd (Jd_bitCount r8 σ12) (fun r14 σ15 =>
    some (r14, σ15))))))
noncomputable def Sf_repay (a1 : Int32) (a2 : Int32) (a3 : Int32) (σ : gx_R) : Option (Int32 × gx_R) :=
  z_bd (Fo_areUnlike a1 a2 σ) (fun r1 σ2 =>
  if r1 = 0 then
    some ((-1 : Int32), σ2)
  else
    if a3 < (1 : Int32) then
      some ((-1 : Int32), σ2)
    else
      z_ck (z_ix ((a1 * (8 : Int32)) + a2) 64) (
      if a3 ≤ (σ2 14 (((a1 * (8 : Int32)) + a2).toNatClampNeg)) then
        z_bd (St_push σ2) (fun _ σ9 =>
        z_ck (z_ix ((a1 * (8 : Int32)) + a2) 64) (
        z_ck (z_ix ((a1 * (8 : Int32)) + a2) 64) (
        z_ck (z_ix ((a1 * (8 : Int32)) + a2) 64) (
        some (((gx_up σ9 14 ((a1 * (8 : Int32)) + a2).toNatClampNeg ((σ9 14 (((a1 * (8 : Int32)) + a2).toNatClampNeg)) - a3)) 14 (((a1 * (8 : Int32)) + a2).toNatClampNeg)), (gx_up σ9 14 ((a1 * (8 : Int32)) + a2).toNatClampNeg ((σ9 14 (((a1 * (8 : Int32)) + a2).toNatClampNeg)) - a3)))))))
      else
        some ((-1 : Int32), σ2)))
noncomputable def Sf_passHours_25 (K8 : Int32 → Int32 → Int32 → Int32 → gx_R → Option (Int32 × gx_R)) (a1 : Int32) (a2 : Int32) (a4 : Int32) (a5 : Int32) (σ : gx_R) : Option (Int32 × gx_R) :=
  z_bd (Cl_pass 9 σ) (fun _ σ9 =>
  z_ck (z_ix (σ 9 6) 999) (
  z_bd (Jd_bitCount ((gx_up σ9 18 (σ 9 6).toNatClampNeg (((σ9 53 4) ||| ((σ9 53 5) <<< ((8 : Int32) &&& 31))) ||| ((σ9 53 6) <<< ((16 : Int32) &&& 31)))) 53 4) (gx_up σ9 18 (σ 9 6).toNatClampNeg (((σ9 53 4) ||| ((σ9 53 5) <<< ((8 : Int32) &&& 31))) ||| ((σ9 53 6) <<< ((16 : Int32) &&& 31))))) (fun r12 σ13 =>
  K8 a1 a2 (a4 + r12) (a5 + 1) σ13)))
noncomputable def Sf_passHours_8_B (K8 : Int32 → Int32 → Int32 → Int32 → gx_R → Option (Int32 × gx_R)) (a1 : Int32) (a2 : Int32) (a4 : Int32) (a5 : Int32) (σ : gx_R) : Option (Int32 × gx_R) :=
  if a1 ≤ a5 then
    some (a4, σ)
  else
    if (σ 9 6) < 0 then
      some (a4, σ)
    else
      if (999 : Int32) ≤ (σ 9 6) then
        some (a4, σ)
      else
        if a2 = 0 then
          Sf_passHours_25 K8 a1 a2 a4 a5 σ
        else
          z_bd (St_push σ) (fun _ σ6 =>
          Sf_passHours_25 K8 a1 a2 a4 a5 σ6)
noncomputable def Sf_passHours_8 : Nat → Int32 → Int32 → Int32 → Int32 → gx_R → Option (Int32 × gx_R)
  | 0, _, _, _, _, _ => none
  | n + 1, a1, a2, a4, a5, σ => Sf_passHours_8_B (Sf_passHours_8 n) a1 a2 a4 a5 σ
noncomputable def Sf_passHours (a1 : Int32) (a2 : Int32) (σ : gx_R) : Option (Int32 × gx_R) :=
  Sf_passHours_8 z_FU a1 a2 (0 : Int32) (0 : Int32) σ
noncomputable def Sf_hour (a1 : Int32) (σ : gx_R) : Option (Int32 × gx_R) :=
  if a1 < (1 : Int32) then
    some ((-1 : Int32), σ)
  else
    if (60 : Int32) < a1 then
      some ((-1 : Int32), σ)
    else
      if ((σ 9 6) + a1) ≤ (999 : Int32) then
        z_bd (Sf_passHours a1 (1 : Int32) σ) (fun r4 σ5 =>
        some (r4, σ5))
      else
        some ((-1 : Int32), σ)
