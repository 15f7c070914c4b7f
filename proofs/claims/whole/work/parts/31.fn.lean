noncomputable def Cl_pass_110 (K94 : Nat → Int32 → gx_R → Option (Unit × gx_R)) (b1 : Nat) (a2 : Int32) (σ : gx_R) : Option (Unit × gx_R) :=
  K94 b1 (a2 + 1) σ
noncomputable def Cl_pass_112 (b1 : Nat) (σ : gx_R) : Option (Unit × gx_R) :=
  some ((), (gx_up σ b1 6 ((σ b1 6) + (1 : Int32))))
noncomputable def Cl_pass_94_B (K94 : Nat → Int32 → gx_R → Option (Unit × gx_R)) (b1 : Nat) (a2 : Int32) (σ : gx_R) : Option (Unit × gx_R) :=
  if (8 : Int32) ≤ a2 then
    Cl_pass_112 b1 σ
  else
    z_ck (z_ix a2 8) (
    if (σ (b1 + 1) a2.toNatClampNeg) = 0 then
      Cl_pass_110 K94 b1 a2 σ
    else
      z_ck (z_ix a2 8) (
      z_ck (z_ix a2 8) (
      Cl_pass_110 K94 b1 a2 (gx_up σ (b1 + 3) a2.toNatClampNeg ((σ (b1 + 3) a2.toNatClampNeg) + (1 : Int32))))))
noncomputable def Cl_pass_94 : Nat → Nat → Int32 → gx_R → Option (Unit × gx_R)
  | 0, _, _, _ => none
  | n + 1, b1, a2, σ => Cl_pass_94_B (Cl_pass_94 n) b1 a2 σ
noncomputable def Cl_pass_75 (K33 : Nat → Int32 → gx_R → Option (Unit × gx_R)) (b1 : Nat) (a2 : Int32) (σ : gx_R) : Option (Unit × gx_R) :=
  K33 b1 (a2 + 1) σ
noncomputable def Cl_pass_29 (K13 : Nat → Int32 → gx_R → Option (Unit × gx_R)) (b1 : Nat) (a2 : Int32) (σ : gx_R) : Option (Unit × gx_R) :=
  K13 b1 (a2 + 1) σ
noncomputable def Cl_pass_77 (b1 : Nat) (σ : gx_R) : Option (Unit × gx_R) :=
  z_bd (Cl_listen b1 σ) (fun _ σ25 =>
  z_bd (Cl_wokenByNoise b1 σ25) (fun r27 σ28 =>
  z_bd (Cl_spread r27 (σ28 53 6) σ28) (fun r30 σ31 =>
  z_bd (Ni_makeIdle b1 ((σ25 53 5) ||| r30) σ31) (fun _ σ34 =>
  Cl_pass_94 z_FU b1 (0 : Int32) σ34))))
noncomputable def Cl_pass_33_B (K33 : Nat → Int32 → gx_R → Option (Unit × gx_R)) (b1 : Nat) (a2 : Int32) (σ : gx_R) : Option (Unit × gx_R) :=
  if (8 : Int32) ≤ a2 then
    Cl_pass_77 b1 σ
  else
    z_ck (z_ix a2 8) (
    if (σ (b1 + 1) a2.toNatClampNeg) = (1 : Int32) then
      z_bd (La_fuelNow b1 a2 σ) (fun r14 σ15 =>
      z_bd (La_burnNow b1 a2 σ15) (fun r17 σ18 =>
      if r14 < r17 then
        Cl_pass_75 K33 b1 a2 (gx_up σ18 53 5 ((σ18 53 5) ||| ((1 : Int32) <<< (a2 &&& 31))))
      else
        z_bd (Cl_goForward b1 a2 (gx_up σ18 53 4 ((σ18 53 4) ||| ((1 : Int32) <<< (a2 &&& 31))))) (fun _ σ22 =>
        Cl_pass_75 K33 b1 a2 σ22)))
    else
      Cl_pass_75 K33 b1 a2 σ)
noncomputable def Cl_pass_33 : Nat → Nat → Int32 → gx_R → Option (Unit × gx_R)
  | 0, _, _, _ => none
  | n + 1, b1, a2, σ => Cl_pass_33_B (Cl_pass_33 n) b1 a2 σ
noncomputable def Cl_pass_31 (b1 : Nat) (σ : gx_R) : Option (Unit × gx_R) :=
  Cl_pass_33 z_FU b1 (0 : Int32) σ
noncomputable def Cl_pass_13_B (K13 : Nat → Int32 → gx_R → Option (Unit × gx_R)) (b1 : Nat) (a2 : Int32) (σ : gx_R) : Option (Unit × gx_R) :=
  if (8 : Int32) ≤ a2 then
    Cl_pass_31 b1 σ
  else
    z_ck (z_ix a2 8) (
    if (σ (b1 + 1) a2.toNatClampNeg) = (2 : Int32) then
      z_bd (Ni_draw b1 (10 : Int32) σ) (fun r7 σ8 =>
      z_ck (z_ix a2 8) (
      Cl_pass_29 K13 b1 a2 (gx_up σ8 (b1 + 4) a2.toNatClampNeg r7)))
    else
      Cl_pass_29 K13 b1 a2 σ)
noncomputable def Cl_pass_13 : Nat → Nat → Int32 → gx_R → Option (Unit × gx_R)
  | 0, _, _, _ => none
  | n + 1, b1, a2, σ => Cl_pass_13_B (Cl_pass_13 n) b1 a2 σ
noncomputable def Cl_pass (b1 : Nat) (σ : gx_R) : Option (Unit × gx_R) :=
  z_bd (Ni_those b1 (2 : Int32) (gx_up (gx_up σ 53 4 (0 : Int32)) 53 5 (0 : Int32))) (fun r1 σ2 =>
  Cl_pass_13 z_FU b1 (0 : Int32) (gx_up σ2 53 6 r1))
noncomputable def Cl_wokenBy (a2 : Int32) (σ : gx_R) : Option (Int32 × gx_R) :=
  z_bd (Cl_listen 9 σ) (fun _ σ2 =>
  z_bd (Ni_those 9 (2 : Int32) σ2) (fun r4 σ5 =>
  z_bd (Cl_spread ((1 : Int32) <<< (a2 &&& 31)) r4 σ5) (fun r7 σ8 =>
  some (r7, σ8))))
noncomputable def Pa_list_23 (K4 : Int32 → Nat → Int32 → Int32 → gx_R → Option (Int32 × gx_R)) (a0 : Int32) (b1 : Nat) (a2 : Int32) (a3 : Int32) (σ : gx_R) : Option (Int32 × gx_R) :=
  K4 a0 b1 a2 (a3 + 1) σ
noncomputable def Pa_list_4_B (K4 : Int32 → Nat → Int32 → Int32 → gx_R → Option (Int32 × gx_R)) (a0 : Int32) (b1 : Nat) (a2 : Int32) (a3 : Int32) (σ : gx_R) : Option (Int32 × gx_R) :=
  if (8 : Int32) ≤ a3 then
    some (a2, σ)
  else
    if (nI (lay0 b1).2.1) ≤ a2 then
      some (a2, σ)
    else
      if ((a0 >>> (a3 &&& 31)) &&& (1 : Int32)) = (1 : Int32) then
        z_ck (z_ix a2 (lay0 b1).2.1) (
        Pa_list_23 K4 a0 b1 (a2 + 1) a3 (gx_up σ b1 a2.toNatClampNeg a3))
      else
        Pa_list_23 K4 a0 b1 a2 a3 σ
noncomputable def Pa_list_4 : Nat → Int32 → Nat → Int32 → Int32 → gx_R → Option (Int32 × gx_R)
  | 0, _, _, _, _, _ => none
  | n + 1, a0, b1, a2, a3, σ => Pa_list_4_B (Pa_list_4 n) a0 b1 a2 a3 σ
noncomputable def Pa_list (a0 : Int32) (b1 : Nat) (σ : gx_R) : Option (Int32 × gx_R) :=
  Pa_list_4 z_FU a0 b1 (0 : Int32) (0 : Int32) σ
noncomputable def Pa_weigh_107 (a5 : Int32) (s1 : Int32) (s2 : Int32) (σ : gx_R) : Option (Unit × gx_R) :=
  z_ck (z_ix s1 24) (
  z_ck (z_ix a5 24) (
  some ((), (gx_up (gx_up σ 68 s1.toNatClampNeg s2) 63 10 (if ((gx_up σ 68 s1.toNatClampNeg s2) 68 a5.toNatClampNeg) < ((gx_up σ 68 s1.toNatClampNeg s2) 63 10) then ((gx_up σ 68 s1.toNatClampNeg s2) 68 a5.toNatClampNeg) else ((gx_up σ 68 s1.toNatClampNeg s2) 63 10))))))
noncomputable def Pa_weigh_54 (a1 : Int32) (a2 : Int32) (a3 : Int32) (a4 : Int32) (a5 : Int32) (a6 : Int32) (s1 : Int32) (s2 : Int32) (σ : gx_R) : Option (Unit × gx_R) :=
  z_ck (z_ix s1 24) (
  z_ck (z_ix (a5 + (4 : Int32)) 28) (
  z_ck (z_ix a5 24) (
  z_ck (z_ix a5 28) (
  if a6 = 0 then
    some ((), (gx_up (gx_up σ 67 s1.toNatClampNeg s2) 69 a5.toNatClampNeg (((gx_up σ 67 s1.toNatClampNeg s2) 69 ((a5 + (4 : Int32)).toNatClampNeg)) + (if (0 : Int32) < ((gx_up σ 67 s1.toNatClampNeg s2) 67 a5.toNatClampNeg) then ((gx_up σ 67 s1.toNatClampNeg s2) 67 a5.toNatClampNeg) else (0 : Int32)))))
  else
    z_ck (z_ix a2 4) (
    z_ck (z_ix a1 6) (
    z_ck (z_ix ((((gx_up (gx_up σ 67 s1.toNatClampNeg s2) 69 a5.toNatClampNeg (((gx_up σ 67 s1.toNatClampNeg s2) 69 ((a5 + (4 : Int32)).toNatClampNeg)) + (if (0 : Int32) < ((gx_up σ 67 s1.toNatClampNeg s2) 67 a5.toNatClampNeg) then ((gx_up σ 67 s1.toNatClampNeg s2) 67 a5.toNatClampNeg) else (0 : Int32)))) 64 a2.toNatClampNeg) * (8 : Int32)) + ((gx_up (gx_up σ 67 s1.toNatClampNeg s2) 69 a5.toNatClampNeg (((gx_up σ 67 s1.toNatClampNeg s2) 69 ((a5 + (4 : Int32)).toNatClampNeg)) + (if (0 : Int32) < ((gx_up σ 67 s1.toNatClampNeg s2) 67 a5.toNatClampNeg) then ((gx_up σ 67 s1.toNatClampNeg s2) 67 a5.toNatClampNeg) else (0 : Int32)))) 65 a1.toNatClampNeg)) 64) (
    if a3 = 0 then
      Pa_weigh_107 a5 a5 (1 : Int32) (gx_up (gx_up σ 67 s1.toNatClampNeg s2) 69 a5.toNatClampNeg (((gx_up σ 67 s1.toNatClampNeg s2) 69 ((a5 + (4 : Int32)).toNatClampNeg)) + (if (0 : Int32) < ((gx_up σ 67 s1.toNatClampNeg s2) 67 a5.toNatClampNeg) then ((gx_up σ 67 s1.toNatClampNeg s2) 67 a5.toNatClampNeg) else (0 : Int32))))
    else
      z_ck (z_ix a1 6) (
      z_bd (La_priceOf ((gx_up (gx_up σ 67 s1.toNatClampNeg s2) 69 a5.toNatClampNeg (((gx_up σ 67 s1.toNatClampNeg s2) 69 ((a5 + (4 : Int32)).toNatClampNeg)) + (if (0 : Int32) < ((gx_up σ 67 s1.toNatClampNeg s2) 67 a5.toNatClampNeg) then ((gx_up σ 67 s1.toNatClampNeg s2) 67 a5.toNatClampNeg) else (0 : Int32)))) 65 a1.toNatClampNeg) ((gx_up (gx_up σ 67 s1.toNatClampNeg s2) 69 a5.toNatClampNeg (((gx_up σ 67 s1.toNatClampNeg s2) 69 ((a5 + (4 : Int32)).toNatClampNeg)) + (if (0 : Int32) < ((gx_up σ 67 s1.toNatClampNeg s2) 67 a5.toNatClampNeg) then ((gx_up σ 67 s1.toNatClampNeg s2) 67 a5.toNatClampNeg) else (0 : Int32)))) 14 (((((gx_up (gx_up σ 67 s1.toNatClampNeg s2) 69 a5.toNatClampNeg (((gx_up σ 67 s1.toNatClampNeg s2) 69 ((a5 + (4 : Int32)).toNatClampNeg)) + (if (0 : Int32) < ((gx_up σ 67 s1.toNatClampNeg s2) 67 a5.toNatClampNeg) then ((gx_up σ 67 s1.toNatClampNeg s2) 67 a5.toNatClampNeg) else (0 : Int32)))) 64 a2.toNatClampNeg) * (8 : Int32)) + ((gx_up (gx_up σ 67 s1.toNatClampNeg s2) 69 a5.toNatClampNeg (((gx_up σ 67 s1.toNatClampNeg s2) 69 ((a5 + (4 : Int32)).toNatClampNeg)) + (if (0 : Int32) < ((gx_up σ 67 s1.toNatClampNeg s2) 67 a5.toNatClampNeg) then ((gx_up σ 67 s1.toNatClampNeg s2) 67 a5.toNatClampNeg) else (0 : Int32)))) 65 a1.toNatClampNeg)).toNatClampNeg)) a4 (gx_up (gx_up σ 67 s1.toNatClampNeg s2) 69 a5.toNatClampNeg (((gx_up σ 67 s1.toNatClampNeg s2) 69 ((a5 + (4 : Int32)).toNatClampNeg)) + (if (0 : Int32) < ((gx_up σ 67 s1.toNatClampNeg s2) 67 a5.toNatClampNeg) then ((gx_up σ 67 s1.toNatClampNeg s2) 67 a5.toNatClampNeg) else (0 : Int32))))) (fun r21 σ22 =>
      Pa_weigh_107 a5 a5 r21 σ22)))))))))
noncomputable def Pa_weigh_32 (a1 : Int32) (a2 : Int32) (a3 : Int32) (a4 : Int32) (a5 : Int32) (s0 : Int32) (σ : gx_R) : Option (Unit × gx_R) :=
  if s0 = 0 then
    Pa_weigh_54 a1 a2 a3 a4 a5 s0 a5 (-1 : Int32) σ
  else
    z_ck (z_ix a1 6) (
    z_ck (z_ix a2 4) (
    z_bd (La_worthOf (σ 65 a1.toNatClampNeg) (σ 64 a2.toNatClampNeg) (0 : Int32) (0 : Int32) a4 σ) (fun r8 σ9 =>
    Pa_weigh_54 a1 a2 a3 a4 a5 s0 a5 r8 σ9)))
noncomputable def Pa_weigh (a1 : Int32) (a2 : Int32) (a3 : Int32) (σ : gx_R) : Option (Unit × gx_R) :=
  z_ck (z_ix a1 6) (
  z_ck (z_ix (σ 65 a1.toNatClampNeg) 8) (
  z_ck (z_ix a2 4) (
  if (((σ 5 ((σ 65 a1.toNatClampNeg).toNatClampNeg)) >>> ((σ 64 a2.toNatClampNeg) &&& 31)) &&& (1 : Int32)) = (1 : Int32) then
    Pa_weigh_32 a1 a2 a3 (σ 9 6) ((a1 * (4 : Int32)) + a2) (1 : Int32) σ
  else
    Pa_weigh_32 a1 a2 a3 (σ 9 6) ((a1 * (4 : Int32)) + a2) (0 : Int32) σ)))
noncomputable def Pa_prepare_70 (K55 : Int32 → Int32 → gx_R → Option (Unit × gx_R)) (a4 : Int32) (a5 : Int32) (σ : gx_R) : Option (Unit × gx_R) :=
  K55 a4 (a5 + (-1)) σ
noncomputable def Pa_prepare_59_B (K55 : Int32 → Int32 → gx_R → Option (Unit × gx_R)) (K59 : Int32 → Int32 → Int32 → gx_R → Option (Unit × gx_R)) (a4 : Int32) (a5 : Int32) (a6 : Int32) (σ : gx_R) : Option (Unit × gx_R) :=
  if (σ 63 4) ≤ a6 then
    Pa_prepare_70 K55 a4 a5 σ
  else
    z_bd (Pa_weigh a5 a6 a4 σ) (fun _ σ17 =>
    K59 a4 a5 (a6 + 1) σ17)
noncomputable def Pa_prepare_59 (K55 : Int32 → Int32 → gx_R → Option (Unit × gx_R)) : Nat → Int32 → Int32 → Int32 → gx_R → Option (Unit × gx_R)
  | 0, _, _, _, _ => none
  | n + 1, a4, a5, a6, σ => Pa_prepare_59_B K55 (Pa_prepare_59 K55 n) a4 a5 a6 σ
noncomputable def Pa_prepare_55_B (K55 : Int32 → Int32 → gx_R → Option (Unit × gx_R)) (a4 : Int32) (a5 : Int32) (σ : gx_R) : Option (Unit × gx_R) :=
  if a5 < 0 then
    some ((), σ)
  else
    Pa_prepare_59 K55 z_FU a4 a5 (0 : Int32) σ
noncomputable def Pa_prepare_55 : Nat → Int32 → Int32 → gx_R → Option (Unit × gx_R)
  | 0, _, _, _ => none
  | n + 1, a4, a5, σ => Pa_prepare_55_B (Pa_prepare_55 n) a4 a5 σ
noncomputable def Pa_prepare_50 (a4 : Int32) (σ : gx_R) : Option (Unit × gx_R) :=
  Pa_prepare_55 z_FU a4 ((σ 63 5) - (1 : Int32)) σ
noncomputable def Pa_prepare_17_B (K17 : Int32 → Int32 → Int32 → gx_R → Option (Unit × gx_R)) (a2 : Int32) (a4 : Int32) (a5 : Int32) (σ : gx_R) : Option (Unit × gx_R) :=
  if (σ 63 4) ≤ a5 then
    Pa_prepare_50 a4 σ
  else
    z_ck (z_ix a5 4) (
    z_bd (La_burnOf (σ 64 a5.toNatClampNeg) a2 (0 : Int32) (σ 9 6) σ) (fun r9 σ10 =>
    z_ck (z_ix a5 4) (
    z_ck (z_ix ((((gx_up σ10 66 a5.toNatClampNeg r9) 63 5) * (4 : Int32)) + a5) 28) (
    K17 a2 a4 (a5 + 1) (gx_up (gx_up σ10 66 a5.toNatClampNeg r9) 69 ((((gx_up σ10 66 a5.toNatClampNeg r9) 63 5) * (4 : Int32)) + a5).toNatClampNeg (0 : Int32))))))
noncomputable def Pa_prepare_17 : Nat → Int32 → Int32 → Int32 → gx_R → Option (Unit × gx_R)
  | 0, _, _, _, _ => none
  | n + 1, a2, a4, a5, σ => Pa_prepare_17_B (Pa_prepare_17 n) a2 a4 a5 σ
noncomputable def Pa_prepare (a1 : Int32) (a2 : Int32) (a3 : Int32) (a4 : Int32) (σ : gx_R) : Option (Unit × gx_R) :=
  z_bd (Pa_list a1 64 σ) (fun r1 σ2 =>
  z_bd (Pa_list a3 65 (gx_up σ2 63 4 r1)) (fun r4 σ5 =>
  Pa_prepare_17 z_FU a2 a4 (0 : Int32) (gx_up (gx_up σ5 63 5 r4) 63 10 (1000000 : Int32))))
noncomputable def Pa_isWorthwhile_36 (K4 : Int32 → Int32 → Int32 → Int32 → Int32 → gx_R → Option (Int32 × gx_R)) (a1 : Int32) (a2 : Int32) (a3 : Int32) (a5 : Int32) (s0 : Int32) (s1 : Int32) (σ : gx_R) : Option (Int32 × gx_R) :=
  K4 a1 a2 a3 (s0 + s1) (a5 + 1) σ
noncomputable def Pa_isWorthwhile_65 (σ : gx_R) : Option (Int32 × gx_R) :=
  some ((1 : Int32), σ)
noncomputable def Pa_isWorthwhile_49 (a2 : Int32) (a4 : Int32) (s0 : Int32) (s1 : Int32) (σ : gx_R) : Option (Int32 × gx_R) :=
  if (s0 + s1) < (σ 63 15) then
    Pa_isWorthwhile_65 σ
  else
    if (s0 + s1) = (σ 63 15) then
      if (σ 63 14) ≤ (a2 + a4) then
        some ((0 : Int32), σ)
      else
        Pa_isWorthwhile_65 σ
    else
      some ((0 : Int32), σ)
noncomputable def Pa_isWorthwhile_40 (a2 : Int32) (a3 : Int32) (a4 : Int32) (σ : gx_R) : Option (Int32 × gx_R) :=
  if a4 ≤ 0 then
    Pa_isWorthwhile_49 a2 a4 a3 (0 : Int32) σ
  else
    Pa_isWorthwhile_49 a2 a4 a3 (a4 * (σ 63 10)) σ
noncomputable def Pa_isWorthwhile_4_B (K4 : Int32 → Int32 → Int32 → Int32 → Int32 → gx_R → Option (Int32 × gx_R)) (a1 : Int32) (a2 : Int32) (a3 : Int32) (a4 : Int32) (a5 : Int32) (σ : gx_R) : Option (Int32 × gx_R) :=
  if (σ 63 4) ≤ a5 then
    Pa_isWorthwhile_40 a2 a3 a4 σ
  else
    z_ck (z_ix a5 4) (
    z_ck (z_ix a5 4) (
    z_ck (z_ix ((a1 * (4 : Int32)) + a5) 28) (
    if ((σ 66 a5.toNatClampNeg) - (σ 70 a5.toNatClampNeg)) ≤ (σ 69 (((a1 * (4 : Int32)) + a5).toNatClampNeg)) then
      if ((σ 66 a5.toNatClampNeg) - (σ 70 a5.toNatClampNeg)) ≤ 0 then
        Pa_isWorthwhile_36 K4 a1 a2 a3 a5 a4 (0 : Int32) σ
      else
        Pa_isWorthwhile_36 K4 a1 a2 a3 a5 a4 (1 : Int32) σ
    else
      some ((0 : Int32), σ))))
noncomputable def Pa_isWorthwhile_4 : Nat → Int32 → Int32 → Int32 → Int32 → Int32 → gx_R → Option (Int32 × gx_R)
  | 0, _, _, _, _, _, _ => none
  | n + 1, a1, a2, a3, a4, a5, σ => Pa_isWorthwhile_4_B (Pa_isWorthwhile_4 n) a1 a2 a3 a4 a5 σ
noncomputable def Pa_isWorthwhile (a1 : Int32) (a2 : Int32) (a3 : Int32) (σ : gx_R) : Option (Int32 × gx_R) :=
  Pa_isWorthwhile_4 z_FU a1 a2 a3 (0 : Int32) (0 : Int32) σ
noncomputable def Pa_search_91 (rc : Int32 → Int32 → Int32 → gx_R → Option (Unit × gx_R)) (K31 : Int32 → Int32 → Int32 → Int32 → gx_R → Option (Unit × gx_R)) (a1 : Int32) (a2 : Int32) (a3 : Int32) (a4 : Int32) (σ : gx_R) : Option (Unit × gx_R) :=
  K31 a1 a2 a3 (a4 + 1) σ
noncomputable def Pa_search_93 (rc : Int32 → Int32 → Int32 → gx_R → Option (Unit × gx_R)) (a1 : Int32) (a2 : Int32) (a3 : Int32) (σ : gx_R) : Option (Unit × gx_R) :=
  z_ck (z_ix a1 6) (
  z_bd (rc (a1 + (1 : Int32)) a2 a3 (gx_up σ 71 a1.toNatClampNeg (8 : Int32))) (fun _ σ24 =>
  some ((), σ24)))
noncomputable def Pa_search_31_B (rc : Int32 → Int32 → Int32 → gx_R → Option (Unit × gx_R)) (K31 : Int32 → Int32 → Int32 → Int32 → gx_R → Option (Unit × gx_R)) (a1 : Int32) (a2 : Int32) (a3 : Int32) (a4 : Int32) (σ : gx_R) : Option (Unit × gx_R) :=
  if (σ 63 4) ≤ a4 then
    Pa_search_93 rc a1 a2 a3 σ
  else
    z_ck (z_ix ((a1 * (4 : Int32)) + a4) 24) (
    if (σ 67 (((a1 * (4 : Int32)) + a4).toNatClampNeg)) = (-1 : Int32) then
      Pa_search_91 rc K31 a1 a2 a3 a4 σ
    else
      z_ck (z_ix a4 4) (
      z_ck (z_ix a1 6) (
      z_ck (z_ix a4 4) (
      z_ck (z_ix ((a1 * (4 : Int32)) + a4) 24) (
      z_ck (z_ix a4 4) (
      z_ck (z_ix ((a1 * (4 : Int32)) + a4) 24) (
      z_bd (rc (a1 + (1 : Int32)) (a2 + (1 : Int32)) (a3 + ((gx_up (gx_up σ 71 a1.toNatClampNeg (σ 64 a4.toNatClampNeg)) 70 a4.toNatClampNeg (((gx_up σ 71 a1.toNatClampNeg (σ 64 a4.toNatClampNeg)) 70 a4.toNatClampNeg) + ((gx_up σ 71 a1.toNatClampNeg (σ 64 a4.toNatClampNeg)) 67 (((a1 * (4 : Int32)) + a4).toNatClampNeg)))) 68 (((a1 * (4 : Int32)) + a4).toNatClampNeg))) (gx_up (gx_up σ 71 a1.toNatClampNeg (σ 64 a4.toNatClampNeg)) 70 a4.toNatClampNeg (((gx_up σ 71 a1.toNatClampNeg (σ 64 a4.toNatClampNeg)) 70 a4.toNatClampNeg) + ((gx_up σ 71 a1.toNatClampNeg (σ 64 a4.toNatClampNeg)) 67 (((a1 * (4 : Int32)) + a4).toNatClampNeg))))) (fun _ σ17 =>
      z_ck (z_ix a4 4) (
      z_ck (z_ix ((a1 * (4 : Int32)) + a4) 24) (
      z_ck (z_ix a4 4) (
      Pa_search_91 rc K31 a1 a2 a3 a4 (gx_up σ17 70 a4.toNatClampNeg ((σ17 70 a4.toNatClampNeg) - (σ17 67 (((a1 * (4 : Int32)) + a4).toNatClampNeg)))))))))))))))
noncomputable def Pa_search_31 (rc : Int32 → Int32 → Int32 → gx_R → Option (Unit × gx_R)) : Nat → Int32 → Int32 → Int32 → Int32 → gx_R → Option (Unit × gx_R)
  | 0, _, _, _, _, _ => none
  | n + 1, a1, a2, a3, a4, σ => Pa_search_31_B rc (Pa_search_31 rc n) a1 a2 a3 a4 σ
noncomputable def Pa_search_14 (rc : Int32 → Int32 → Int32 → gx_R → Option (Unit × gx_R)) (a2 : Int32) (a3 : Int32) (σ : gx_R) : Option (Unit × gx_R) :=
  some ((), (gx_cp (gx_up (gx_up σ 63 15 a3) 63 14 a2) 71 72 (0 : Int32).toNatClampNeg (0 : Int32).toNatClampNeg (6 : Int32).toNatClampNeg))
noncomputable def Pa_search_E (rc : Int32 → Int32 → Int32 → gx_R → Option (Unit × gx_R)) (a1 : Int32) (a2 : Int32) (a3 : Int32) (σ : gx_R) : Option (Unit × gx_R) :=
  z_bd (Pa_isWorthwhile a1 a2 a3 σ) (fun r1 σ2 =>
  if r1 = 0 then
    some ((), σ2)
  else
    if (σ2 63 5) ≤ a1 then
      Pa_search_14 rc a2 a3 σ2
    else
      if a1 < (6 : Int32) then
        Pa_search_31 rc z_FU a1 a2 a3 (0 : Int32) σ2
      else
        Pa_search_14 rc a2 a3 σ2)
noncomputable def Pa_search_R : Nat → Int32 → Int32 → Int32 → gx_R → Option (Unit × gx_R)
  | 0, _, _, _, _ => none
  | d + 1, a1, a2, a3, σ => Pa_search_E (Pa_search_R d) a1 a2 a3 σ
noncomputable def Pa_search : Int32 → Int32 → Int32 → gx_R → Option (Unit × gx_R) := Pa_search_R 10
noncomputable def Pa_solve_19 (σ : gx_R) : Option (Int32 × gx_R) :=
  z_bd (Pa_search (0 : Int32) (0 : Int32) (0 : Int32) σ) (fun _ σ4 =>
  if (1000000 : Int32) ≤ (σ4 63 14) then
    some ((0 : Int32), σ4)
  else
    some ((1 : Int32), σ4))
noncomputable def Pa_solve_8_B (K8 : Int32 → gx_R → Option (Int32 × gx_R)) (a1 : Int32) (σ : gx_R) : Option (Int32 × gx_R) :=
  if (σ 63 4) ≤ a1 then
    Pa_solve_19 σ
  else
    z_ck (z_ix a1 4) (
    K8 (a1 + 1) (gx_up σ 70 a1.toNatClampNeg (0 : Int32)))
noncomputable def Pa_solve_8 : Nat → Int32 → gx_R → Option (Int32 × gx_R)
  | 0, _, _ => none
  | n + 1, a1, σ => Pa_solve_8_B (Pa_solve_8 n) a1 σ
noncomputable def Pa_solve (σ : gx_R) : Option (Int32 × gx_R) :=
  Pa_solve_8 z_FU (0 : Int32) (gx_up (gx_up σ 63 15 (1000000 : Int32)) 63 14 (1000000 : Int32))
noncomputable def Pa_whomFor_12 (a2 : Int32) (σ : gx_R) : Option (Int32 × gx_R) :=
  z_ck (z_ix a2 6) (
  some ((σ 72 a2.toNatClampNeg), σ))
noncomputable def Pa_whomFor_2_B (K2 : Int32 → Int32 → gx_R → Option (Int32 × gx_R)) (a1 : Int32) (a2 : Int32) (σ : gx_R) : Option (Int32 × gx_R) :=
  if (σ 63 5) ≤ a2 then
    some ((-1 : Int32), σ)
  else
    z_ck (z_ix a2 6) (
    if (σ 65 a2.toNatClampNeg) = a1 then
      Pa_whomFor_12 a2 σ
    else
      K2 a1 (a2 + 1) σ)
noncomputable def Pa_whomFor_2 : Nat → Int32 → Int32 → gx_R → Option (Int32 × gx_R)
  | 0, _, _, _ => none
  | n + 1, a1, a2, σ => Pa_whomFor_2_B (Pa_whomFor_2 n) a1 a2 σ
noncomputable def Pa_whomFor (a1 : Int32) (σ : gx_R) : Option (Int32 × gx_R) :=
  Pa_whomFor_2 z_FU a1 (0 : Int32) σ
noncomputable def Pa_burnOfGroup_22 (K4 : Int32 → Int32 → Int32 → gx_R → Option (Int32 × gx_R)) (a1 : Int32) (a3 : Int32) (s0 : Int32) (s1 : Int32) (σ : gx_R) : Option (Int32 × gx_R) :=
  K4 a1 (s0 + s1) (a3 + 1) σ
noncomputable def Pa_burnOfGroup_4_B (K4 : Int32 → Int32 → Int32 → gx_R → Option (Int32 × gx_R)) (a1 : Int32) (a2 : Int32) (a3 : Int32) (σ : gx_R) : Option (Int32 × gx_R) :=
  if (σ 63 4) ≤ a3 then
    some (a2, σ)
  else
    if ((a1 >>> (a3 &&& 31)) &&& (1 : Int32)) = (1 : Int32) then
      z_ck (z_ix a3 4) (
      Pa_burnOfGroup_22 K4 a1 a3 a2 (σ 66 a3.toNatClampNeg) σ)
    else
      Pa_burnOfGroup_22 K4 a1 a3 a2 (0 : Int32) σ
noncomputable def Pa_burnOfGroup_4 : Nat → Int32 → Int32 → Int32 → gx_R → Option (Int32 × gx_R)
  | 0, _, _, _, _ => none
  | n + 1, a1, a2, a3, σ => Pa_burnOfGroup_4_B (Pa_burnOfGroup_4 n) a1 a2 a3 σ
noncomputable def Pa_burnOfGroup (a1 : Int32) (σ : gx_R) : Option (Int32 × gx_R) :=
  Pa_burnOfGroup_4 z_FU a1 (0 : Int32) (0 : Int32) σ
noncomputable def Pa_worthForGroup_34 (K12 : Int32 → Int32 → Int32 → Int32 → Int32 → gx_R → Option (Int32 × gx_R)) (a1 : Int32) (a2 : Int32) (a3 : Int32) (a4 : Int32) (a5 : Int32) (σ : gx_R) : Option (Int32 × gx_R) :=
  K12 a1 a2 a3 a4 (a5 + 1) σ
noncomputable def Pa_worthForGroup_36 (K4 : Int32 → Int32 → Int32 → gx_R → Option (Int32 × gx_R)) (a1 : Int32) (a2 : Int32) (a3 : Int32) (a4 : Int32) (σ : gx_R) : Option (Int32 × gx_R) :=
  K4 a1 (a2 + a4) (a3 + 1) σ
noncomputable def Pa_worthForGroup_12_B (K4 : Int32 → Int32 → Int32 → gx_R → Option (Int32 × gx_R)) (K12 : Int32 → Int32 → Int32 → Int32 → Int32 → gx_R → Option (Int32 × gx_R)) (a1 : Int32) (a2 : Int32) (a3 : Int32) (a4 : Int32) (a5 : Int32) (σ : gx_R) : Option (Int32 × gx_R) :=
  if (σ 63 4) ≤ a5 then
    Pa_worthForGroup_36 K4 a1 a2 a3 a4 σ
  else
    if ((a1 >>> (a5 &&& 31)) &&& (1 : Int32)) = (1 : Int32) then
      z_ck (z_ix ((a3 * (4 : Int32)) + a5) 24) (
      Pa_worthForGroup_34 K12 a1 a2 a3 (if a4 < (σ 67 (((a3 * (4 : Int32)) + a5).toNatClampNeg)) then (σ 67 (((a3 * (4 : Int32)) + a5).toNatClampNeg)) else a4) a5 σ)
    else
      Pa_worthForGroup_34 K12 a1 a2 a3 a4 a5 σ
noncomputable def Pa_worthForGroup_12 (K4 : Int32 → Int32 → Int32 → gx_R → Option (Int32 × gx_R)) : Nat → Int32 → Int32 → Int32 → Int32 → Int32 → gx_R → Option (Int32 × gx_R)
  | 0, _, _, _, _, _, _ => none
  | n + 1, a1, a2, a3, a4, a5, σ => Pa_worthForGroup_12_B K4 (Pa_worthForGroup_12 K4 n) a1 a2 a3 a4 a5 σ
noncomputable def Pa_worthForGroup_4_B (K4 : Int32 → Int32 → Int32 → gx_R → Option (Int32 × gx_R)) (a1 : Int32) (a2 : Int32) (a3 : Int32) (σ : gx_R) : Option (Int32 × gx_R) :=
  if (σ 63 5) ≤ a3 then
    some (a2, σ)
  else
    Pa_worthForGroup_12 K4 z_FU a1 a2 a3 (0 : Int32) (0 : Int32) σ
noncomputable def Pa_worthForGroup_4 : Nat → Int32 → Int32 → Int32 → gx_R → Option (Int32 × gx_R)
  | 0, _, _, _, _ => none
  | n + 1, a1, a2, a3, σ => Pa_worthForGroup_4_B (Pa_worthForGroup_4 n) a1 a2 a3 σ
noncomputable def Pa_worthForGroup (a1 : Int32) (σ : gx_R) : Option (Int32 × gx_R) :=
  Pa_worthForGroup_4 z_FU a1 (0 : Int32) (0 : Int32) σ
noncomputable def Pa_peopleOf_4_B (K4 : Int32 → Int32 → Int32 → gx_R → Option (Int32 × gx_R)) (a1 : Int32) (a2 : Int32) (a3 : Int32) (σ : gx_R) : Option (Int32 × gx_R) :=
  if (σ 63 4) ≤ a3 then
    some (a2, σ)
  else
    z_ck (z_ix a3 4) (
    K4 a1 (a2 ||| (((a1 >>> (a3 &&& 31)) &&& (1 : Int32)) <<< ((σ 64 a3.toNatClampNeg) &&& 31))) (a3 + 1) σ)
noncomputable def Pa_peopleOf_4 : Nat → Int32 → Int32 → Int32 → gx_R → Option (Int32 × gx_R)
  | 0, _, _, _, _ => none
  | n + 1, a1, a2, a3, σ => Pa_peopleOf_4_B (Pa_peopleOf_4 n) a1 a2 a3 σ
noncomputable def Pa_peopleOf (a1 : Int32) (σ : gx_R) : Option (Int32 × gx_R) :=
  Pa_peopleOf_4 z_FU a1 (0 : Int32) (0 : Int32) σ
noncomputable def Pa_lowestShort_15 (a1 : Int32) (σ : gx_R) : Option (Int32 × gx_R) :=
  z_bd (Pa_peopleOf a1 σ) (fun r9 σ10 =>
  some (r9, σ10))
noncomputable def Pa_lowestShort_2_B (K2 : Int32 → gx_R → Option (Int32 × gx_R)) (a1 : Int32) (σ : gx_R) : Option (Int32 × gx_R) :=
  if ((1 : Int32) <<< ((σ 63 4) &&& 31)) ≤ a1 then
    some ((-1 : Int32), σ)
  else
    z_bd (Pa_burnOfGroup a1 σ) (fun r2 σ3 =>
    z_bd (Pa_worthForGroup a1 σ3) (fun r5 σ6 =>
    if r2 ≤ r5 then
      K2 (a1 + 1) σ6
    else
      Pa_lowestShort_15 a1 σ6))
noncomputable def Pa_lowestShort_2 : Nat → Int32 → gx_R → Option (Int32 × gx_R)
  | 0, _, _ => none
  | n + 1, a1, σ => Pa_lowestShort_2_B (Pa_lowestShort_2 n) a1 σ
noncomputable def Pa_lowestShort (σ : gx_R) : Option (Int32 × gx_R) :=
  Pa_lowestShort_2 z_FU (1 : Int32) σ
noncomputable def Ro_prepare_19_B (K19 : Int32 → gx_R → Option (Unit × gx_R)) (a5 : Int32) (σ : gx_R) : Option (Unit × gx_R) :=
  if (8 : Int32) ≤ a5 then
    some ((), σ)
  else
    z_ck (z_ix a5 8) (
    K19 (a5 + 1) (gx_up σ 74 a5.toNatClampNeg (-100 : Int32)))
noncomputable def Ro_prepare_19 : Nat → Int32 → gx_R → Option (Unit × gx_R)
  | 0, _, _ => none
  | n + 1, a5, σ => Ro_prepare_19_B (Ro_prepare_19 n) a5 σ
noncomputable def Ro_prepare (a1 : Int32) (a2 : Int32) (a3 : Int32) (a4 : Int32) (σ : gx_R) : Option (Unit × gx_R) :=
  Ro_prepare_19 z_FU (0 : Int32) (gx_up (gx_up (gx_up (gx_up (gx_up σ 73 0 (if (8 : Int32) < a1 then (8 : Int32) else a1)) 73 1 a2) 73 2 a3) 73 3 a4) 73 7 (100 : Int32))
noncomputable def Ro_changesToCome_18 (σ : gx_R) : Option (Int32 × gx_R) :=
  some ((0 : Int32), σ)
noncomputable def Ro_changesToCome (a1 : Int32) (a2 : Int32) (σ : gx_R) : Option (Int32 × gx_R) :=
  if ((((σ 73 0) - (1 : Int32)) - a1) - ((σ 73 2) - a2)) ≤ 0 then
    Ro_changesToCome_18 σ
  else
    if (1 : Int32) ≤ (σ 73 2) then
      z_ck (z_nzi (σ 73 2)) (
      some ((((((((σ 73 0) - (1 : Int32)) - a1) - ((σ 73 2) - a2)) + (σ 73 2)) - (1 : Int32)) / (σ 73 2)), σ))
    else
      Ro_changesToCome_18 σ
noncomputable def Ro_place_78 (rc : Int32 → Int32 → Int32 → Int32 → gx_R → Option (Unit × gx_R)) (K100 : Int32 → Int32 → Int32 → Int32 → Int32 → Int32 → gx_R → Option (Unit × gx_R)) (a1 : Int32) (a2 : Int32) (a3 : Int32) (a4 : Int32) (a5 : Int32) (a6 : Int32) (σ : gx_R) : Option (Unit × gx_R) :=
  if a6 = a2 then
    K100 a1 a2 a3 a4 a5 a6 σ
  else
    z_ck (z_ix a6 8) (
    if (a1 - (σ 74 a6.toNatClampNeg)) < (σ 73 3) then
      K100 a1 a2 a3 a4 a5 a6 σ
    else
      z_bd (rc (a1 + (1 : Int32)) a6 (1 : Int32) (a4 + (1 : Int32)) σ) (fun _ σ21 =>
      K100 a1 a2 a3 a4 a5 a6 σ21))
noncomputable def Ro_place_100 (rc : Int32 → Int32 → Int32 → Int32 → gx_R → Option (Unit × gx_R)) (K49 : Int32 → Int32 → Int32 → Int32 → Int32 → Int32 → gx_R → Option (Unit × gx_R)) (a1 : Int32) (a2 : Int32) (a3 : Int32) (a4 : Int32) (a5 : Int32) (a6 : Int32) (σ : gx_R) : Option (Unit × gx_R) :=
  K49 a1 a2 a3 a4 a5 (a6 + 1) σ
noncomputable def Ro_place_102 (rc : Int32 → Int32 → Int32 → Int32 → gx_R → Option (Unit × gx_R)) (a2 : Int32) (a5 : Int32) (σ : gx_R) : Option (Unit × gx_R) :=
  z_ck (z_ix a2 8) (
  some ((), (gx_up σ 74 a2.toNatClampNeg a5)))
noncomputable def Ro_place_49_B (rc : Int32 → Int32 → Int32 → Int32 → gx_R → Option (Unit × gx_R)) (K49 : Int32 → Int32 → Int32 → Int32 → Int32 → Int32 → gx_R → Option (Unit × gx_R)) (a1 : Int32) (a2 : Int32) (a3 : Int32) (a4 : Int32) (a5 : Int32) (a6 : Int32) (σ : gx_R) : Option (Unit × gx_R) :=
  if (8 : Int32) ≤ a6 then
    Ro_place_102 rc a2 a5 σ
  else
    if (((σ 73 1) >>> (a6 &&& 31)) &&& (1 : Int32)) = 0 then
      Ro_place_100 rc K49 a1 a2 a3 a4 a5 a6 σ
    else
      if a6 = a2 then
        if (σ 73 2) ≤ a3 then
          Ro_place_78 rc (Ro_place_100 rc K49) a1 a2 a3 a4 a5 a6 σ
        else
          z_bd (rc (a1 + (1 : Int32)) a6 (a3 + (1 : Int32)) a4 σ) (fun _ σ15 =>
          Ro_place_100 rc K49 a1 a2 a3 a4 a5 a6 σ15)
      else
        Ro_place_78 rc (Ro_place_100 rc K49) a1 a2 a3 a4 a5 a6 σ
noncomputable def Ro_place_49 (rc : Int32 → Int32 → Int32 → Int32 → gx_R → Option (Unit × gx_R)) : Nat → Int32 → Int32 → Int32 → Int32 → Int32 → Int32 → gx_R → Option (Unit × gx_R)
  | 0, _, _, _, _, _, _, _ => none
  | n + 1, a1, a2, a3, a4, a5, a6, σ => Ro_place_49_B rc (Ro_place_49 rc n) a1 a2 a3 a4 a5 a6 σ
noncomputable def Ro_place_E (rc : Int32 → Int32 → Int32 → Int32 → gx_R → Option (Unit × gx_R)) (a1 : Int32) (a2 : Int32) (a3 : Int32) (a4 : Int32) (σ : gx_R) : Option (Unit × gx_R) :=
  if (σ 73 0) ≤ a1 then
    some ((), σ)
  else
    z_bd (Ro_changesToCome a1 a3 σ) (fun r2 σ3 =>
    if (a4 + r2) < (σ3 73 7) then
      z_ck (z_ix a1 8) (
      if a1 = (((gx_up σ3 75 a1.toNatClampNeg a2) 73 0) - (1 : Int32)) then
        some ((), (gx_cp (gx_up (gx_up σ3 75 a1.toNatClampNeg a2) 73 7 a4) 75 76 (0 : Int32).toNatClampNeg (0 : Int32).toNatClampNeg (8 : Int32).toNatClampNeg))
      else
        z_ck (z_ix a2 8) (
        z_ck (z_ix a2 8) (
        Ro_place_49 rc z_FU a1 a2 a3 a4 ((gx_up σ3 75 a1.toNatClampNeg a2) 74 a2.toNatClampNeg) (0 : Int32) (gx_up (gx_up σ3 75 a1.toNatClampNeg a2) 74 a2.toNatClampNeg a1))))
    else
      some ((), σ3))
noncomputable def Ro_place_R : Nat → Int32 → Int32 → Int32 → Int32 → gx_R → Option (Unit × gx_R)
  | 0, _, _, _, _, _ => none
  | d + 1, a1, a2, a3, a4, σ => Ro_place_E (Ro_place_R d) a1 a2 a3 a4 σ
noncomputable def Ro_place : Int32 → Int32 → Int32 → Int32 → gx_R → Option (Unit × gx_R) := Ro_place_R 10
noncomputable def Ro_solve_19 (K2 : Int32 → gx_R → Option (Int32 × gx_R)) (a1 : Int32) (σ : gx_R) : Option (Int32 × gx_R) :=
  K2 (a1 + 1) σ
noncomputable def Ro_solve_21 (σ : gx_R) : Option (Int32 × gx_R) :=
  if (100 : Int32) ≤ (σ 73 7) then
    some ((0 : Int32), σ)
  else
    some ((1 : Int32), σ)
noncomputable def Ro_solve_2_B (K2 : Int32 → gx_R → Option (Int32 × gx_R)) (a1 : Int32) (σ : gx_R) : Option (Int32 × gx_R) :=
  if (8 : Int32) ≤ a1 then
    Ro_solve_21 σ
  else
    if (((σ 73 1) >>> (a1 &&& 31)) &&& (1 : Int32)) = (1 : Int32) then
      z_bd (Ro_place (0 : Int32) a1 (1 : Int32) (0 : Int32) σ) (fun _ σ4 =>
      Ro_solve_19 K2 a1 σ4)
    else
      Ro_solve_19 K2 a1 σ
noncomputable def Ro_solve_2 : Nat → Int32 → gx_R → Option (Int32 × gx_R)
  | 0, _, _ => none
  | n + 1, a1, σ => Ro_solve_2_B (Ro_solve_2 n) a1 σ
noncomputable def Ro_solve (σ : gx_R) : Option (Int32 × gx_R) :=
  Ro_solve_2 z_FU (0 : Int32) σ
noncomputable def Ro_whoIn (a1 : Int32) (σ : gx_R) : Option (Int32 × gx_R) :=
  if a1 < 0 then
    some ((-1 : Int32), σ)
  else
    if (σ 73 0) ≤ a1 then
      some ((-1 : Int32), σ)
    else
      z_ck (z_ix a1 8) (
      some ((σ 76 a1.toNatClampNeg), σ))
noncomputable def Qu_tierBehind_46 (K22 : Int32 → Int32 → Int32 → Int32 → Int32 → Int32 → gx_R → Option (Int32 × gx_R)) (a2 : Int32) (a3 : Int32) (a4 : Int32) (a5 : Int32) (a6 : Int32) (a7 : Int32) (σ : gx_R) : Option (Int32 × gx_R) :=
  K22 a2 a3 a4 a5 a6 (a7 + 1) σ
noncomputable def Qu_tierBehind_60 (K13 : Int32 → Int32 → Int32 → Int32 → gx_R → Option (Int32 × gx_R)) (a2 : Int32) (a3 : Int32) (a5 : Int32) (a6 : Int32) (σ : gx_R) : Option (Int32 × gx_R) :=
  K13 a2 (a3 ||| a6) a6 (a5 + 1) σ
noncomputable def Qu_tierBehind_48 (K13 : Int32 → Int32 → Int32 → Int32 → gx_R → Option (Int32 × gx_R)) (a2 : Int32) (a3 : Int32) (a5 : Int32) (a6 : Int32) (σ : gx_R) : Option (Int32 × gx_R) :=
  if a2 = (-1 : Int32) then
    Qu_tierBehind_60 K13 a2 a3 a5 a6 σ
  else
    if ((a6 >>> (a2 &&& 31)) &&& (1 : Int32)) = (1 : Int32) then
      some (a5, σ)
    else
      Qu_tierBehind_60 K13 a2 a3 a5 a6 σ
noncomputable def Qu_tierBehind_22_B (K13 : Int32 → Int32 → Int32 → Int32 → gx_R → Option (Int32 × gx_R)) (K22 : Int32 → Int32 → Int32 → Int32 → Int32 → Int32 → gx_R → Option (Int32 × gx_R)) (a2 : Int32) (a3 : Int32) (a4 : Int32) (a5 : Int32) (a6 : Int32) (a7 : Int32) (σ : gx_R) : Option (Int32 × gx_R) :=
  if (8 : Int32) ≤ a7 then
    Qu_tierBehind_48 K13 a2 a3 a5 a6 σ
  else
    if ((a3 >>> (a7 &&& 31)) &&& (1 : Int32)) = 0 then
      z_ck (z_ix a7 8) (
      if ((σ 5 a7.toNatClampNeg) &&& a4) = 0 then
        Qu_tierBehind_46 K22 a2 a3 a4 a5 a6 a7 σ
      else
        Qu_tierBehind_46 K22 a2 a3 a4 a5 (a6 ||| ((1 : Int32) <<< (a7 &&& 31))) a7 σ)
    else
      Qu_tierBehind_46 K22 a2 a3 a4 a5 a6 a7 σ
noncomputable def Qu_tierBehind_22 (K13 : Int32 → Int32 → Int32 → Int32 → gx_R → Option (Int32 × gx_R)) : Nat → Int32 → Int32 → Int32 → Int32 → Int32 → Int32 → gx_R → Option (Int32 × gx_R)
  | 0, _, _, _, _, _, _, _ => none
  | n + 1, a2, a3, a4, a5, a6, a7, σ => Qu_tierBehind_22_B K13 (Qu_tierBehind_22 K13 n) a2 a3 a4 a5 a6 a7 σ
noncomputable def Qu_tierBehind_68 (a2 : Int32) (a3 : Int32) (σ : gx_R) : Option (Int32 × gx_R) :=
  if a2 = (-1 : Int32) then
    z_bd (Jd_bitCount a3 σ) (fun r11 σ12 =>
    some ((r11 - (1 : Int32)), σ12))
  else
    some ((-1 : Int32), σ)
noncomputable def Qu_tierBehind_13_B (K13 : Int32 → Int32 → Int32 → Int32 → gx_R → Option (Int32 × gx_R)) (a2 : Int32) (a3 : Int32) (a4 : Int32) (a5 : Int32) (σ : gx_R) : Option (Int32 × gx_R) :=
  if (8 : Int32) < a5 then
    Qu_tierBehind_68 a2 a3 σ
  else
    if a4 = 0 then
      Qu_tierBehind_68 a2 a3 σ
    else
      Qu_tierBehind_22 K13 z_FU a2 a3 a4 a5 (0 : Int32) (0 : Int32) σ
noncomputable def Qu_tierBehind_13 : Nat → Int32 → Int32 → Int32 → Int32 → gx_R → Option (Int32 × gx_R)
  | 0, _, _, _, _, _ => none
  | n + 1, a2, a3, a4, a5, σ => Qu_tierBehind_13_B (Qu_tierBehind_13 n) a2 a3 a4 a5 σ
noncomputable def Qu_tierBehind (a1 : Int32) (a2 : Int32) (σ : gx_R) : Option (Int32 × gx_R) :=
  if a2 = a1 then
    some ((0 : Int32), σ)
  else
    Qu_tierBehind_13 z_FU a2 ((1 : Int32) <<< (a1 &&& 31)) ((1 : Int32) <<< (a1 &&& 31)) (1 : Int32) σ
noncomputable def Qu_leastGuard_60 (K24 : Int32 → Int32 → Int32 → Int32 → Int32 → Int32 → gx_R → Option (Int32 × gx_R)) (a1 : Int32) (a2 : Int32) (a4 : Int32) (a5 : Int32) (a6 : Int32) (a7 : Int32) (σ : gx_R) : Option (Int32 × gx_R) :=
  K24 a1 a2 a4 a5 a6 (a7 + 1) σ
noncomputable def Qu_leastGuard_35 (K24 : Int32 → Int32 → Int32 → Int32 → Int32 → Int32 → gx_R → Option (Int32 × gx_R)) (a1 : Int32) (a2 : Int32) (a4 : Int32) (a5 : Int32) (a6 : Int32) (a7 : Int32) (s0 : Int32) (σ : gx_R) : Option (Int32 × gx_R) :=
  if s0 = 0 then
    Qu_leastGuard_60 K24 a1 a2 a4 a5 a6 a7 σ
  else
    if (a7 &&& (a5 ^^^ (-1 : Int32))) = 0 then
      z_bd (Cl_spread ((1 : Int32) <<< (a1 &&& 31)) (a4 &&& (a7 ^^^ (-1 : Int32))) σ) (fun r17 σ18 =>
      if (r17 &&& a2) = 0 then
        Qu_leastGuard_60 K24 a1 a2 a4 a5 a7 a7 σ18
      else
        Qu_leastGuard_60 K24 a1 a2 a4 a5 a6 a7 σ18)
    else
      Qu_leastGuard_60 K24 a1 a2 a4 a5 a6 a7 σ
noncomputable def Qu_leastGuard_24_B (K24 : Int32 → Int32 → Int32 → Int32 → Int32 → Int32 → gx_R → Option (Int32 × gx_R)) (a1 : Int32) (a2 : Int32) (a4 : Int32) (a5 : Int32) (a6 : Int32) (a7 : Int32) (σ : gx_R) : Option (Int32 × gx_R) :=
  if a5 ≤ a7 then
    some (a6, σ)
  else
    z_bd (Jd_bitCount a7 σ) (fun r8 σ9 =>
    z_bd (Jd_bitCount a6 σ9) (fun r11 σ12 =>
    if r11 ≤ r8 then
      Qu_leastGuard_35 K24 a1 a2 a4 a5 a6 a7 (0 : Int32) σ12
    else
      Qu_leastGuard_35 K24 a1 a2 a4 a5 a6 a7 (1 : Int32) σ12))
noncomputable def Qu_leastGuard_24 : Nat → Int32 → Int32 → Int32 → Int32 → Int32 → Int32 → gx_R → Option (Int32 × gx_R)
  | 0, _, _, _, _, _, _, _ => none
  | n + 1, a1, a2, a4, a5, a6, a7, σ => Qu_leastGuard_24_B (Qu_leastGuard_24 n) a1 a2 a4 a5 a6 a7 σ
noncomputable def Qu_leastGuard (a1 : Int32) (a2 : Int32) (σ : gx_R) : Option (Int32 × gx_R) :=
  z_bd (Ni_those 9 (2 : Int32) σ) (fun r1 σ2 =>
  z_bd (Cl_listen 9 σ2) (fun _ σ5 =>
  Qu_leastGuard_24 z_FU a1 a2 r1 (r1 &&& (((1 : Int32) <<< (a1 &&& 31)) ^^^ (-1 : Int32))) (r1 &&& (((1 : Int32) <<< (a1 &&& 31)) ^^^ (-1 : Int32))) (0 : Int32) σ5))
noncomputable def Qu_listDebts_36 (K12 : Int32 → Int32 → gx_R → Option (Unit × gx_R)) (a1 : Int32) (a2 : Int32) (σ : gx_R) : Option (Unit × gx_R) :=
  K12 a1 (a2 + 1) σ
noncomputable def Qu_listDebts_38 (K2 : Int32 → gx_R → Option (Unit × gx_R)) (a1 : Int32) (σ : gx_R) : Option (Unit × gx_R) :=
  K2 (a1 + 1) σ
noncomputable def Qu_listDebts_12_B (K2 : Int32 → gx_R → Option (Unit × gx_R)) (K12 : Int32 → Int32 → gx_R → Option (Unit × gx_R)) (a1 : Int32) (a2 : Int32) (σ : gx_R) : Option (Unit × gx_R) :=
  if (8 : Int32) ≤ a2 then
    Qu_listDebts_38 K2 a1 σ
  else
    z_ck (z_ix ((a1 * (8 : Int32)) + a2) 64) (
    if (σ 14 (((a1 * (8 : Int32)) + a2).toNatClampNeg)) ≤ 0 then
      Qu_listDebts_36 K12 a1 a2 σ
    else
      z_ck (z_ix a1 8) (
      z_ck (z_ix a1 8) (
      Qu_listDebts_36 K12 a1 a2 (gx_up σ 78 a1.toNatClampNeg ((σ 78 a1.toNatClampNeg) ||| ((1 : Int32) <<< (a2 &&& 31)))))))
noncomputable def Qu_listDebts_12 (K2 : Int32 → gx_R → Option (Unit × gx_R)) : Nat → Int32 → Int32 → gx_R → Option (Unit × gx_R)
  | 0, _, _, _ => none
  | n + 1, a1, a2, σ => Qu_listDebts_12_B K2 (Qu_listDebts_12 K2 n) a1 a2 σ
noncomputable def Qu_listDebts_2_B (K2 : Int32 → gx_R → Option (Unit × gx_R)) (a1 : Int32) (σ : gx_R) : Option (Unit × gx_R) :=
  if (8 : Int32) ≤ a1 then
    some ((), σ)
  else
    z_ck (z_ix a1 8) (
    Qu_listDebts_12 K2 z_FU a1 (0 : Int32) (gx_up σ 78 a1.toNatClampNeg (0 : Int32)))
noncomputable def Qu_listDebts_2 : Nat → Int32 → gx_R → Option (Unit × gx_R)
  | 0, _, _ => none
  | n + 1, a1, σ => Qu_listDebts_2_B (Qu_listDebts_2 n) a1 σ
noncomputable def Qu_listDebts (σ : gx_R) : Option (Unit × gx_R) :=
  Qu_listDebts_2 z_FU (0 : Int32) σ
noncomputable def Qu_ringFrom_65 (K38 : Int32 → Int32 → Int32 → Int32 → Int32 → gx_R → Option (Int32 × gx_R)) (a1 : Int32) (a2 : Int32) (a3 : Int32) (a4 : Int32) (a5 : Int32) (σ : gx_R) : Option (Int32 × gx_R) :=
  K38 a1 a2 a3 a4 (a5 + 1) σ
noncomputable def Qu_ringFrom_67 (K18 : Int32 → Int32 → Int32 → gx_R → Option (Int32 × gx_R)) (a1 : Int32) (a3 : Int32) (a4 : Int32) (σ : gx_R) : Option (Int32 × gx_R) :=
  K18 a1 a4 (a3 + 1) σ
noncomputable def Qu_ringFrom_38_B (K18 : Int32 → Int32 → Int32 → gx_R → Option (Int32 × gx_R)) (K38 : Int32 → Int32 → Int32 → Int32 → Int32 → gx_R → Option (Int32 × gx_R)) (a1 : Int32) (a2 : Int32) (a3 : Int32) (a4 : Int32) (a5 : Int32) (σ : gx_R) : Option (Int32 × gx_R) :=
  if (8 : Int32) ≤ a5 then
    Qu_ringFrom_67 K18 a1 a3 a4 σ
  else
    z_ck (z_ix a5 8) (
    if (σ 79 a5.toNatClampNeg) = (-1 : Int32) then
      z_ck (z_ix a5 8) (
      if ((σ 78 a5.toNatClampNeg) &&& a2) = 0 then
        Qu_ringFrom_65 K38 a1 a2 a3 a4 a5 σ
      else
        z_ck (z_ix a5 8) (
        Qu_ringFrom_65 K38 a1 a2 a3 (a4 ||| ((1 : Int32) <<< (a5 &&& 31))) a5 (gx_up σ 79 a5.toNatClampNeg a3)))
    else
      Qu_ringFrom_65 K38 a1 a2 a3 a4 a5 σ)
noncomputable def Qu_ringFrom_38 (K18 : Int32 → Int32 → Int32 → gx_R → Option (Int32 × gx_R)) : Nat → Int32 → Int32 → Int32 → Int32 → Int32 → gx_R → Option (Int32 × gx_R)
  | 0, _, _, _, _, _, _ => none
  | n + 1, a1, a2, a3, a4, a5, σ => Qu_ringFrom_38_B K18 (Qu_ringFrom_38 K18 n) a1 a2 a3 a4 a5 σ
noncomputable def Qu_ringFrom_18_B (K18 : Int32 → Int32 → Int32 → gx_R → Option (Int32 × gx_R)) (a1 : Int32) (a2 : Int32) (a3 : Int32) (σ : gx_R) : Option (Int32 × gx_R) :=
  if (8 : Int32) < a3 then
    some ((-1 : Int32), σ)
  else
    if a2 = 0 then
      some ((-1 : Int32), σ)
    else
      z_ck (z_ix a1 8) (
      if ((σ 78 a1.toNatClampNeg) &&& a2) = 0 then
        Qu_ringFrom_38 K18 z_FU a1 a2 a3 (0 : Int32) (a1 + (1 : Int32)) σ
      else
        some (a3, σ))
noncomputable def Qu_ringFrom_18 : Nat → Int32 → Int32 → Int32 → gx_R → Option (Int32 × gx_R)
  | 0, _, _, _, _ => none
  | n + 1, a1, a2, a3, σ => Qu_ringFrom_18_B (Qu_ringFrom_18 n) a1 a2 a3 σ
noncomputable def Qu_ringFrom_12 (a1 : Int32) (σ : gx_R) : Option (Int32 × gx_R) :=
  Qu_ringFrom_18 z_FU a1 ((1 : Int32) <<< (a1 &&& 31)) (1 : Int32) σ
noncomputable def Qu_ringFrom_2_B (K2 : Int32 → Int32 → gx_R → Option (Int32 × gx_R)) (a1 : Int32) (a2 : Int32) (σ : gx_R) : Option (Int32 × gx_R) :=
  if (8 : Int32) ≤ a2 then
    Qu_ringFrom_12 a1 σ
  else
    z_ck (z_ix a2 8) (
    K2 a1 (a2 + 1) (gx_up σ 79 a2.toNatClampNeg (-1 : Int32)))
noncomputable def Qu_ringFrom_2 : Nat → Int32 → Int32 → gx_R → Option (Int32 × gx_R)
  | 0, _, _, _ => none
  | n + 1, a1, a2, σ => Qu_ringFrom_2_B (Qu_ringFrom_2 n) a1 a2 σ
noncomputable def Qu_ringFrom (a1 : Int32) (σ : gx_R) : Option (Int32 × gx_R) :=
  Qu_ringFrom_2 z_FU a1 (0 : Int32) σ
noncomputable def Qu_nextInRing_23 (K2 : Int32 → Int32 → Int32 → gx_R → Option (Int32 × gx_R)) (a1 : Int32) (a2 : Int32) (a3 : Int32) (σ : gx_R) : Option (Int32 × gx_R) :=
  K2 a1 a2 (a3 + 1) σ
noncomputable def Qu_nextInRing_2_B (K2 : Int32 → Int32 → Int32 → gx_R → Option (Int32 × gx_R)) (a1 : Int32) (a2 : Int32) (a3 : Int32) (σ : gx_R) : Option (Int32 × gx_R) :=
  if (8 : Int32) ≤ a3 then
    some ((-1 : Int32), σ)
  else
    z_ck (z_ix a1 8) (
    if (((σ 78 a1.toNatClampNeg) >>> (a3 &&& 31)) &&& (1 : Int32)) = (1 : Int32) then
      z_ck (z_ix a3 8) (
      if (σ 79 a3.toNatClampNeg) = a2 then
        some (a3, σ)
      else
        Qu_nextInRing_23 K2 a1 a2 a3 σ)
    else
      Qu_nextInRing_23 K2 a1 a2 a3 σ)
noncomputable def Qu_nextInRing_2 : Nat → Int32 → Int32 → Int32 → gx_R → Option (Int32 × gx_R)
  | 0, _, _, _, _ => none
  | n + 1, a1, a2, a3, σ => Qu_nextInRing_2_B (Qu_nextInRing_2 n) a1 a2 a3 σ
noncomputable def Qu_nextInRing (a1 : Int32) (a2 : Int32) (σ : gx_R) : Option (Int32 × gx_R) :=
  Qu_nextInRing_2 z_FU a1 a2 (0 : Int32) σ
noncomputable def Qu_alongRing_29 (K6 : Int32 → Int32 → Int32 → Int32 → Int32 → Int32 → gx_R → Option (Int32 × gx_R)) (a1 : Int32) (a2 : Int32) (a3 : Int32) (a4 : Int32) (a5 : Int32) (a6 : Int32) (s0 : Int32) (σ : gx_R) : Option (Int32 × gx_R) :=
  if s0 = (-1 : Int32) then
    some ((-1 : Int32), σ)
  else
    z_ck (z_ix ((a5 * (8 : Int32)) + s0) 64) (
    K6 a1 a2 a3 (if (σ 14 (((a5 * (8 : Int32)) + s0).toNatClampNeg)) < a4 then (σ 14 (((a5 * (8 : Int32)) + s0).toNatClampNeg)) else a4) s0 (a6 + 1) σ)
noncomputable def Qu_alongRing_6_B (K6 : Int32 → Int32 → Int32 → Int32 → Int32 → Int32 → gx_R → Option (Int32 × gx_R)) (a1 : Int32) (a2 : Int32) (a3 : Int32) (a4 : Int32) (a5 : Int32) (a6 : Int32) (σ : gx_R) : Option (Int32 × gx_R) :=
  if a2 ≤ a6 then
    some (a4, σ)
  else
    if a6 = a3 then
      some (a5, σ)
    else
      if a6 = (a2 - (1 : Int32)) then
        Qu_alongRing_29 K6 a1 a2 a3 a4 a5 a6 a1 σ
      else
        z_bd (Qu_nextInRing a5 ((a2 - (1 : Int32)) - a6) σ) (fun r4 σ5 =>
        Qu_alongRing_29 K6 a1 a2 a3 a4 a5 a6 r4 σ5)
noncomputable def Qu_alongRing_6 : Nat → Int32 → Int32 → Int32 → Int32 → Int32 → Int32 → gx_R → Option (Int32 × gx_R)
  | 0, _, _, _, _, _, _, _ => none
  | n + 1, a1, a2, a3, a4, a5, a6, σ => Qu_alongRing_6_B (Qu_alongRing_6 n) a1 a2 a3 a4 a5 a6 σ
noncomputable def Qu_alongRing (a1 : Int32) (a2 : Int32) (a3 : Int32) (σ : gx_R) : Option (Int32 × gx_R) :=
  Qu_alongRing_6 z_FU a1 a2 a3 (99 : Int32) a1 (0 : Int32) σ
noncomputable def Qu_ofRing_25 (K8 : Int32 → Int32 → Int32 → Int32 → gx_R → Option (Int32 × gx_R)) (a1 : Int32) (a2 : Int32) (a3 : Int32) (a4 : Int32) (σ : gx_R) : Option (Int32 × gx_R) :=
  K8 a1 a2 a3 (a4 + 1) σ
noncomputable def Qu_ofRing_33 (a2 : Int32) (a3 : Int32) (σ : gx_R) : Option (Int32 × gx_R) :=
  if a2 = (-1 : Int32) then
    some ((-1 : Int32), σ)
  else
    some (a3, σ)
noncomputable def Qu_ofRing_27 (a1 : Int32) (a2 : Int32) (a3 : Int32) (σ : gx_R) : Option (Int32 × gx_R) :=
  if a2 = (-1 : Int32) then
    Qu_ofRing_33 a2 a3 σ
  else
    if a1 = (-1 : Int32) then
      Qu_ofRing_33 a2 a3 σ
    else
      z_bd (Qu_ringFrom a2 σ) (fun r12 σ13 =>
      if a3 ≤ a1 then
        some ((-1 : Int32), σ13)
      else
        z_bd (Qu_alongRing a2 a3 a1 σ13) (fun r16 σ17 =>
        some (r16, σ17)))
noncomputable def Qu_ofRing_8_B (K8 : Int32 → Int32 → Int32 → Int32 → gx_R → Option (Int32 × gx_R)) (a1 : Int32) (a2 : Int32) (a3 : Int32) (a4 : Int32) (σ : gx_R) : Option (Int32 × gx_R) :=
  if (8 : Int32) ≤ a4 then
    Qu_ofRing_27 a1 a2 a3 σ
  else
    z_bd (Qu_ringFrom a4 σ) (fun r5 σ6 =>
    if r5 = (-1 : Int32) then
      Qu_ofRing_25 K8 a1 a2 a3 a4 σ6
    else
      if a3 ≤ r5 then
        Qu_ofRing_25 K8 a1 a2 a3 a4 σ6
      else
        Qu_ofRing_25 K8 a1 a4 r5 a4 σ6)
noncomputable def Qu_ofRing_8 : Nat → Int32 → Int32 → Int32 → Int32 → gx_R → Option (Int32 × gx_R)
  | 0, _, _, _, _, _ => none
  | n + 1, a1, a2, a3, a4, σ => Qu_ofRing_8_B (Qu_ofRing_8 n) a1 a2 a3 a4 σ
noncomputable def Qu_ofRing (a1 : Int32) (σ : gx_R) : Option (Int32 × gx_R) :=
  z_bd (Qu_listDebts σ) (fun _ σ2 =>
  Qu_ofRing_8 z_FU a1 (-1 : Int32) (9 : Int32) (0 : Int32) σ2)
noncomputable def Qu_weighDreamless_26 (K2 : Int32 → gx_R → Option (Unit × gx_R)) (a1 : Int32) (s1 : Int32) (s2 : Int32) (σ : gx_R) : Option (Unit × gx_R) :=
  z_ck (z_ix s1 8) (
  K2 (a1 + 1) (gx_up σ 80 s1.toNatClampNeg s2))
noncomputable def Qu_weighDreamless_2_B (K2 : Int32 → gx_R → Option (Unit × gx_R)) (a1 : Int32) (σ : gx_R) : Option (Unit × gx_R) :=
  if (8 : Int32) ≤ a1 then
    some ((), σ)
  else
    z_ck (z_ix a1 8) (
    if (σ 10 a1.toNatClampNeg) = (2 : Int32) then
      z_bd (La_worthNow a1 (0 : Int32) σ) (fun r4 σ5 =>
      Qu_weighDreamless_26 K2 a1 a1 r4 σ5)
    else
      Qu_weighDreamless_26 K2 a1 a1 (0 : Int32) σ)
noncomputable def Qu_weighDreamless_2 : Nat → Int32 → gx_R → Option (Unit × gx_R)
  | 0, _, _ => none
  | n + 1, a1, σ => Qu_weighDreamless_2_B (Qu_weighDreamless_2 n) a1 σ
noncomputable def Qu_weighDreamless (σ : gx_R) : Option (Unit × gx_R) :=
  Qu_weighDreamless_2 z_FU (0 : Int32) σ
noncomputable def Qu_fuelWithout_27 (K4 : Int32 → Int32 → Int32 → Int32 → gx_R → Option (Int32 × gx_R)) (a1 : Int32) (a2 : Int32) (a3 : Int32) (a4 : Int32) (σ : gx_R) : Option (Int32 × gx_R) :=
  K4 a1 a2 a3 (a4 + 1) σ
noncomputable def Qu_fuelWithout_4_B (K4 : Int32 → Int32 → Int32 → Int32 → gx_R → Option (Int32 × gx_R)) (a1 : Int32) (a2 : Int32) (a3 : Int32) (a4 : Int32) (σ : gx_R) : Option (Int32 × gx_R) :=
  if (8 : Int32) ≤ a4 then
    some (a3, σ)
  else
    if ((a2 >>> (a4 &&& 31)) &&& (1 : Int32)) = 0 then
      z_bd (Ni_sleepsFor 9 a4 a1 σ) (fun r3 σ4 =>
      if r3 = 0 then
        Qu_fuelWithout_27 K4 a1 a2 a3 a4 σ4
      else
        z_ck (z_ix a4 8) (
        Qu_fuelWithout_27 K4 a1 a2 (a3 + (σ4 80 a4.toNatClampNeg)) a4 σ4))
    else
      Qu_fuelWithout_27 K4 a1 a2 a3 a4 σ
noncomputable def Qu_fuelWithout_4 : Nat → Int32 → Int32 → Int32 → Int32 → gx_R → Option (Int32 × gx_R)
  | 0, _, _, _, _, _ => none
  | n + 1, a1, a2, a3, a4, σ => Qu_fuelWithout_4_B (Qu_fuelWithout_4 n) a1 a2 a3 a4 σ
noncomputable def Qu_fuelWithout (a1 : Int32) (a2 : Int32) (σ : gx_R) : Option (Int32 × gx_R) :=
  Qu_fuelWithout_4 z_FU a1 a2 (0 : Int32) (0 : Int32) σ
noncomputable def Qu_stoppedWithout_35 (K10 : Int32 → Int32 → Int32 → gx_R → Option (Int32 × gx_R)) (a1 : Int32) (a3 : Int32) (a4 : Int32) (σ : gx_R) : Option (Int32 × gx_R) :=
  K10 a1 a3 (a4 + 1) σ
noncomputable def Qu_stoppedWithout_10_B (K10 : Int32 → Int32 → Int32 → gx_R → Option (Int32 × gx_R)) (a1 : Int32) (a3 : Int32) (a4 : Int32) (σ : gx_R) : Option (Int32 × gx_R) :=
  if (8 : Int32) ≤ a4 then
    some (a3, σ)
  else
    z_ck (z_ix a4 8) (
    if (σ 10 a4.toNatClampNeg) = (1 : Int32) then
      z_bd (Qu_fuelWithout a4 a1 σ) (fun r7 σ8 =>
      z_bd (La_burnNow 9 a4 σ8) (fun r10 σ11 =>
      if r10 ≤ r7 then
        Qu_stoppedWithout_35 K10 a1 a3 a4 σ11
      else
        Qu_stoppedWithout_35 K10 a1 (a3 ||| ((1 : Int32) <<< (a4 &&& 31))) a4 σ11))
    else
      Qu_stoppedWithout_35 K10 a1 a3 a4 σ)
noncomputable def Qu_stoppedWithout_10 : Nat → Int32 → Int32 → Int32 → gx_R → Option (Int32 × gx_R)
  | 0, _, _, _, _ => none
  | n + 1, a1, a3, a4, σ => Qu_stoppedWithout_10_B (Qu_stoppedWithout_10 n) a1 a3 a4 σ
noncomputable def Qu_stoppedWithout (a1 : Int32) (σ : gx_R) : Option (Int32 × gx_R) :=
  z_bd (Qu_weighDreamless σ) (fun _ σ2 =>
  Qu_stoppedWithout_10 z_FU a1 (0 : Int32) (0 : Int32) σ2)
noncomputable def Qu_leastStrike_51 (K20 : Int32 → Int32 → Int32 → Int32 → Int32 → gx_R → Option (Int32 × gx_R)) (a1 : Int32) (a2 : Int32) (a3 : Int32) (a4 : Int32) (a5 : Int32) (σ : gx_R) : Option (Int32 × gx_R) :=
  K20 a1 a2 a3 a4 (a5 + 1) σ
noncomputable def Qu_leastStrike_31 (K34 : Int32 → Int32 → Int32 → Int32 → Int32 → Int32 → gx_R → Option (Int32 × gx_R)) (a1 : Int32) (a2 : Int32) (a3 : Int32) (a4 : Int32) (a5 : Int32) (σ : gx_R) : Option (Int32 × gx_R) :=
  K34 a1 a2 a3 a4 a5 (1 : Int32) σ
noncomputable def Qu_leastStrike_34 (K20 : Int32 → Int32 → Int32 → Int32 → Int32 → gx_R → Option (Int32 × gx_R)) (a1 : Int32) (a2 : Int32) (a3 : Int32) (a4 : Int32) (a5 : Int32) (s0 : Int32) (σ : gx_R) : Option (Int32 × gx_R) :=
  if s0 = 0 then
    Qu_leastStrike_51 K20 a1 a2 a3 a4 a5 σ
  else
    if (a5 &&& (a3 ^^^ (-1 : Int32))) = 0 then
      z_bd (Qu_fuelWithout a1 a5 σ) (fun r21 σ22 =>
      if a2 ≤ r21 then
        Qu_leastStrike_51 K20 a1 a2 a3 a4 a5 σ22
      else
        Qu_leastStrike_51 K20 a1 a2 a3 a5 a5 σ22)
    else
      Qu_leastStrike_51 K20 a1 a2 a3 a4 a5 σ
noncomputable def Qu_leastStrike_20_B (K20 : Int32 → Int32 → Int32 → Int32 → Int32 → gx_R → Option (Int32 × gx_R)) (a1 : Int32) (a2 : Int32) (a3 : Int32) (a4 : Int32) (a5 : Int32) (σ : gx_R) : Option (Int32 × gx_R) :=
  if a3 < a5 then
    some (a4, σ)
  else
    if a4 = (-1 : Int32) then
      Qu_leastStrike_31 (Qu_leastStrike_34 K20) a1 a2 a3 a4 a5 σ
    else
      z_bd (Jd_bitCount a5 σ) (fun r12 σ13 =>
      z_bd (Jd_bitCount a4 σ13) (fun r15 σ16 =>
      if r15 ≤ r12 then
        Qu_leastStrike_34 K20 a1 a2 a3 a4 a5 (0 : Int32) σ16
      else
        Qu_leastStrike_31 (Qu_leastStrike_34 K20) a1 a2 a3 a4 a5 σ16))
noncomputable def Qu_leastStrike_20 : Nat → Int32 → Int32 → Int32 → Int32 → Int32 → gx_R → Option (Int32 × gx_R)
  | 0, _, _, _, _, _, _ => none
  | n + 1, a1, a2, a3, a4, a5, σ => Qu_leastStrike_20_B (Qu_leastStrike_20 n) a1 a2 a3 a4 a5 σ
noncomputable def Qu_leastStrike (a1 : Int32) (σ : gx_R) : Option (Int32 × gx_R) :=
  z_bd (Qu_weighDreamless σ) (fun _ σ2 =>
  z_bd (La_burnNow 9 a1 σ2) (fun r4 σ5 =>
  z_bd (Ni_those 9 (2 : Int32) σ5) (fun r7 σ8 =>
  Qu_leastStrike_20 z_FU a1 r4 r7 (-1 : Int32) (0 : Int32) σ8)))
noncomputable def Qu_fitting_66 (K21 : Int32 → Int32 → Int32 → Int32 → Int32 → gx_R → Option (Int32 × gx_R)) (a1 : Int32) (a2 : Int32) (a3 : Int32) (a4 : Int32) (a5 : Int32) (σ : gx_R) : Option (Int32 × gx_R) :=
  K21 a1 a2 a3 a4 (a5 + 1) σ
noncomputable def Qu_fitting_49 (K21 : Int32 → Int32 → Int32 → Int32 → Int32 → gx_R → Option (Int32 × gx_R)) (a1 : Int32) (a2 : Int32) (a3 : Int32) (a4 : Int32) (a5 : Int32) (a6 : Int32) (a7 : Int32) (σ : gx_R) : Option (Int32 × gx_R) :=
  if ((a6 >>> (((8 : Int32) + a1) &&& 31)) &&& (1 : Int32)) = (1 : Int32) then
    Qu_fitting_66 K21 a1 (a2 &&& (a7 ^^^ (-1 : Int32))) (1 : Int32) a4 a5 σ
  else
    Qu_fitting_66 K21 a1 a2 a3 a4 a5 σ
noncomputable def Qu_fitting_68 (a2 : Int32) (a3 : Int32) (σ : gx_R) : Option (Int32 × gx_R) :=
  if a3 = 0 then
    some ((-1 : Int32), σ)
  else
    some (a2, σ)
noncomputable def Qu_fitting_21_B (K21 : Int32 → Int32 → Int32 → Int32 → Int32 → gx_R → Option (Int32 × gx_R)) (a1 : Int32) (a2 : Int32) (a3 : Int32) (a4 : Int32) (a5 : Int32) (σ : gx_R) : Option (Int32 × gx_R) :=
  if a4 ≤ a5 then
    Qu_fitting_68 a2 a3 σ
  else
    z_ck (z_ix a5 999) (
    if (((σ 18 a5.toNatClampNeg) >>> (a1 &&& 31)) &&& (1 : Int32)) = (1 : Int32) then
      Qu_fitting_49 K21 a1 (a2 &&& (((σ 18 a5.toNatClampNeg) >>> ((16 : Int32) &&& 31)) &&& (255 : Int32))) (1 : Int32) a4 a5 (σ 18 a5.toNatClampNeg) (((σ 18 a5.toNatClampNeg) >>> ((16 : Int32) &&& 31)) &&& (255 : Int32)) σ
    else
      Qu_fitting_49 K21 a1 a2 a3 a4 a5 (σ 18 a5.toNatClampNeg) (((σ 18 a5.toNatClampNeg) >>> ((16 : Int32) &&& 31)) &&& (255 : Int32)) σ)
noncomputable def Qu_fitting_21 : Nat → Int32 → Int32 → Int32 → Int32 → Int32 → gx_R → Option (Int32 × gx_R)
  | 0, _, _, _, _, _, _ => none
  | n + 1, a1, a2, a3, a4, a5, σ => Qu_fitting_21_B (Qu_fitting_21 n) a1 a2 a3 a4 a5 σ
noncomputable def Qu_fitting (a1 : Int32) (σ : gx_R) : Option (Int32 × gx_R) :=
  z_bd (Fo_everyone σ) (fun r1 σ2 =>
  z_bd (Va_firstKept σ2) (fun r4 σ5 =>
  Qu_fitting_21 z_FU a1 r1 (0 : Int32) (if (nI 999) < (σ2 9 6) then (nI 999) else (σ2 9 6)) r4 σ5))
