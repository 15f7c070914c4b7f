noncomputable def Md_clause_79 (σ : gx_R) : Option (Unit × gx_R) :=
  if (σ 109 19) = 0 then
    z_bd (Md_clauseIsOver σ) (fun _ σ41 =>
    some ((), σ41))
  else
    some ((), σ)
noncomputable def Md_clause_29 (K36 : gx_R → Option (Unit × gx_R)) (σ : gx_R) : Option (Unit × gx_R) :=
  if (σ 109 30) = (24 : Int32) then
    z_bd (Md_errs (6 : Int32) σ) (fun _ σ16 =>
    K36 σ16)
  else
    K36 σ
noncomputable def Md_clause_36 (σ : gx_R) : Option (Unit × gx_R) :=
  if (σ 109 19) ≤ 0 then
    z_ck (z_ix (σ 109 30) 24) (
    z_ck (z_ix ((gx_up σ 126 (σ 109 30).toNatClampNeg (σ 109 31)) 109 30) 24) (
    z_bd (Md_next (gx_up (gx_up σ 126 (σ 109 30).toNatClampNeg (σ 109 31)) 127 ((gx_up σ 126 (σ 109 30).toNatClampNeg (σ 109 31)) 109 30).toNatClampNeg ((gx_up σ 126 (σ 109 30).toNatClampNeg (σ 109 31)) 109 37))) (fun _ σ22 =>
    if (3 : Int32) < (σ22 109 31) then
      z_bd (Md_doing σ22) (fun _ σ26 =>
      if (σ26 109 19) = 0 then
        z_bd (Md_isSign (59 : Int32) σ26) (fun r29 σ30 =>
        if r29 = 0 then
          z_bd (Md_errs (1 : Int32) σ30) (fun _ σ34 =>
          Md_clause_79 σ34)
        else
          Md_clause_79 σ30)
      else
        Md_clause_79 σ26)
    else
      z_bd (Md_opensFrame (1 : Int32) σ22) (fun _ σ37 =>
      some ((), (gx_up σ37 109 28 (1 : Int32)))))))
  else
    some ((), σ)
noncomputable def Md_clause_8 (σ : gx_R) : Option (Unit × gx_R) :=
  z_bd (Md_errs (1 : Int32) σ) (fun _ σ12 =>
  some ((), σ12))
noncomputable def Md_clause (σ : gx_R) : Option (Unit × gx_R) :=
  if (σ 109 17) = (1 : Int32) then
    if (σ 109 18) ≤ (9 : Int32) then
      if (3 : Int32) < ((gx_up σ 109 31 (σ 109 18)) 109 31) then
        Md_clause_29 (Md_clause_36) (gx_up σ 109 31 (σ 109 18))
      else
        z_bd (Md_wasTold ((gx_up σ 109 31 (σ 109 18)) 109 31) (gx_up σ 109 31 (σ 109 18))) (fun r4 σ5 =>
        if r4 = 0 then
          Md_clause_29 (Md_clause_36) σ5
        else
          z_bd (Md_errs (4 : Int32) σ5) (fun _ σ9 =>
          Md_clause_36 σ9))
    else
      Md_clause_8 σ
  else
    Md_clause_8 σ
noncomputable def Md_text_220 (K170 : Int32 → Int32 → gx_R → Option (Int32 × gx_R)) (a1 : Int32) (a2 : Int32) (s1 : Int32) (s2 : Int32) (s3 : Int32) (σ : gx_R) : Option (Int32 × gx_R) :=
  z_ck (z_ix s1 1600) (
  K170 a1 (a2 + 1) (gx_up σ 120 s1.toNatClampNeg (s2 + s3)))
noncomputable def Md_text_186 (K189 : Int32 → Int32 → Int32 → gx_R → Option (Int32 × gx_R)) (a1 : Int32) (a2 : Int32) (σ : gx_R) : Option (Int32 × gx_R) :=
  K189 a1 a2 (1 : Int32) σ
noncomputable def Md_text_189 (K170 : Int32 → Int32 → gx_R → Option (Int32 × gx_R)) (a1 : Int32) (a2 : Int32) (s0 : Int32) (σ : gx_R) : Option (Int32 × gx_R) :=
  z_ck (z_ix a2 400) (
  z_ck (z_ix (((400 : Int32) * a1) + a2) 1600) (
  z_ck (z_ix a2 400) (
  if s0 = 0 then
    Md_text_220 K170 a1 a2 (((400 : Int32) * a1) + a2) ((gx_up σ 119 (((400 : Int32) * a1) + a2).toNatClampNeg (σ 131 a2.toNatClampNeg)) 132 a2.toNatClampNeg) (0 : Int32) (gx_up σ 119 (((400 : Int32) * a1) + a2).toNatClampNeg (σ 131 a2.toNatClampNeg))
  else
    Md_text_220 K170 a1 a2 (((400 : Int32) * a1) + a2) ((gx_up σ 119 (((400 : Int32) * a1) + a2).toNatClampNeg (σ 131 a2.toNatClampNeg)) 132 a2.toNatClampNeg) ((400 : Int32) * a1) (gx_up σ 119 (((400 : Int32) * a1) + a2).toNatClampNeg (σ 131 a2.toNatClampNeg)))))
noncomputable def Md_text_224 (a1 : Int32) (σ : gx_R) : Option (Int32 × gx_R) :=
  some (a1, (gx_up σ 110 (2 : Int32).toNatClampNeg ((σ 110 ((2 : Int32).toNatClampNeg)) + (1 : Int32))))
noncomputable def Md_text_170_B (K170 : Int32 → Int32 → gx_R → Option (Int32 × gx_R)) (a1 : Int32) (a2 : Int32) (σ : gx_R) : Option (Int32 × gx_R) :=
  if (σ 109 37) ≤ a2 then
    Md_text_224 a1 σ
  else
    z_ck (z_ix a2 400) (
    if (σ 131 a2.toNatClampNeg) = (403 : Int32) then
      Md_text_186 (Md_text_189 K170) a1 a2 σ
    else
      z_ck (z_ix a2 400) (
      if (σ 131 a2.toNatClampNeg) = (404 : Int32) then
        Md_text_186 (Md_text_189 K170) a1 a2 σ
      else
        Md_text_189 K170 a1 a2 (0 : Int32) σ))
noncomputable def Md_text_170 : Nat → Int32 → Int32 → gx_R → Option (Int32 × gx_R)
  | 0, _, _, _ => none
  | n + 1, a1, a2, σ => Md_text_170_B (Md_text_170 n) a1 a2 σ
noncomputable def Md_text_168 (a1 : Int32) (σ : gx_R) : Option (Int32 × gx_R) :=
  Md_text_170 z_FU a1 (0 : Int32) σ
noncomputable def Md_text_98_B (K98 : Int32 → Int32 → gx_R → Option (Int32 × gx_R)) (a1 : Int32) (a2 : Int32) (σ : gx_R) : Option (Int32 × gx_R) :=
  if (σ 109 30) ≤ a2 then
    Md_text_168 a1 σ
  else
    z_ck (z_ix a2 24) (
    z_ck (z_ix (((24 : Int32) * a1) + a2) 96) (
    z_ck (z_ix a2 24) (
    z_ck (z_ix (((24 : Int32) * a1) + a2) 96) (
    z_ck (z_ix a2 24) (
    z_ck (z_ix (((24 : Int32) * a1) + a2) 96) (
    z_ck (z_ix a2 24) (
    z_ck (z_ix (((24 : Int32) * a1) + a2) 96) (
    z_ck (z_ix a2 24) (
    z_ck (z_ix (((24 : Int32) * a1) + a2) 96) (
    K98 a1 (a2 + 1) (gx_up (gx_up (gx_up (gx_up (gx_up σ 114 (((24 : Int32) * a1) + a2).toNatClampNeg (σ 126 a2.toNatClampNeg)) 115 (((24 : Int32) * a1) + a2).toNatClampNeg (((400 : Int32) * a1) + ((gx_up σ 114 (((24 : Int32) * a1) + a2).toNatClampNeg (σ 126 a2.toNatClampNeg)) 127 a2.toNatClampNeg))) 116 (((24 : Int32) * a1) + a2).toNatClampNeg ((gx_up (gx_up σ 114 (((24 : Int32) * a1) + a2).toNatClampNeg (σ 126 a2.toNatClampNeg)) 115 (((24 : Int32) * a1) + a2).toNatClampNeg (((400 : Int32) * a1) + ((gx_up σ 114 (((24 : Int32) * a1) + a2).toNatClampNeg (σ 126 a2.toNatClampNeg)) 127 a2.toNatClampNeg))) 128 a2.toNatClampNeg)) 117 (((24 : Int32) * a1) + a2).toNatClampNeg ((gx_up (gx_up (gx_up σ 114 (((24 : Int32) * a1) + a2).toNatClampNeg (σ 126 a2.toNatClampNeg)) 115 (((24 : Int32) * a1) + a2).toNatClampNeg (((400 : Int32) * a1) + ((gx_up σ 114 (((24 : Int32) * a1) + a2).toNatClampNeg (σ 126 a2.toNatClampNeg)) 127 a2.toNatClampNeg))) 116 (((24 : Int32) * a1) + a2).toNatClampNeg ((gx_up (gx_up σ 114 (((24 : Int32) * a1) + a2).toNatClampNeg (σ 126 a2.toNatClampNeg)) 115 (((24 : Int32) * a1) + a2).toNatClampNeg (((400 : Int32) * a1) + ((gx_up σ 114 (((24 : Int32) * a1) + a2).toNatClampNeg (σ 126 a2.toNatClampNeg)) 127 a2.toNatClampNeg))) 128 a2.toNatClampNeg)) 129 a2.toNatClampNeg)) 118 (((24 : Int32) * a1) + a2).toNatClampNeg ((gx_up (gx_up (gx_up (gx_up σ 114 (((24 : Int32) * a1) + a2).toNatClampNeg (σ 126 a2.toNatClampNeg)) 115 (((24 : Int32) * a1) + a2).toNatClampNeg (((400 : Int32) * a1) + ((gx_up σ 114 (((24 : Int32) * a1) + a2).toNatClampNeg (σ 126 a2.toNatClampNeg)) 127 a2.toNatClampNeg))) 116 (((24 : Int32) * a1) + a2).toNatClampNeg ((gx_up (gx_up σ 114 (((24 : Int32) * a1) + a2).toNatClampNeg (σ 126 a2.toNatClampNeg)) 115 (((24 : Int32) * a1) + a2).toNatClampNeg (((400 : Int32) * a1) + ((gx_up σ 114 (((24 : Int32) * a1) + a2).toNatClampNeg (σ 126 a2.toNatClampNeg)) 127 a2.toNatClampNeg))) 128 a2.toNatClampNeg)) 117 (((24 : Int32) * a1) + a2).toNatClampNeg ((gx_up (gx_up (gx_up σ 114 (((24 : Int32) * a1) + a2).toNatClampNeg (σ 126 a2.toNatClampNeg)) 115 (((24 : Int32) * a1) + a2).toNatClampNeg (((400 : Int32) * a1) + ((gx_up σ 114 (((24 : Int32) * a1) + a2).toNatClampNeg (σ 126 a2.toNatClampNeg)) 127 a2.toNatClampNeg))) 116 (((24 : Int32) * a1) + a2).toNatClampNeg ((gx_up (gx_up σ 114 (((24 : Int32) * a1) + a2).toNatClampNeg (σ 126 a2.toNatClampNeg)) 115 (((24 : Int32) * a1) + a2).toNatClampNeg (((400 : Int32) * a1) + ((gx_up σ 114 (((24 : Int32) * a1) + a2).toNatClampNeg (σ 126 a2.toNatClampNeg)) 127 a2.toNatClampNeg))) 128 a2.toNatClampNeg)) 129 a2.toNatClampNeg)) 130 a2.toNatClampNeg))))))))))))
noncomputable def Md_text_98 : Nat → Int32 → Int32 → gx_R → Option (Int32 × gx_R)
  | 0, _, _, _ => none
  | n + 1, a1, a2, σ => Md_text_98_B (Md_text_98 n) a1 a2 σ
noncomputable def Md_text_54 (K44 : gx_R → Option (Int32 × gx_R)) (σ : gx_R) : Option (Int32 × gx_R) :=
  if (σ 109 28) = (0 : Int32) then
    z_bd (Md_asks σ) (fun _ σ10 =>
    K44 σ10)
  else
  if (σ 109 28) = (1 : Int32) then
    z_bd (Md_begins σ) (fun _ σ14 =>
    K44 σ14)
  else
  if (σ 109 28) = (2 : Int32) then
    z_bd (Md_goesOn σ) (fun _ σ18 =>
    K44 σ18)
  else
  if (σ 109 28) = (3 : Int32) then
    z_bd (Md_asksOn σ) (fun _ σ22 =>
    K44 σ22)
  else
    z_bd (Md_clause σ) (fun _ σ26 =>
    K44 σ26)
noncomputable def Md_text_72 (σ : gx_R) : Option (Int32 × gx_R) :=
  if ((gx_up (gx_up σ 109 4 (σ 109 19)) 109 5 ((gx_up σ 109 4 (σ 109 19)) 109 20)) 109 19) ≤ 0 then
    z_ck (z_ix ((gx_up (gx_up σ 109 4 (σ 109 19)) 109 5 ((gx_up σ 109 4 (σ 109 19)) 109 20)) 110 ((2 : Int32).toNatClampNeg)) 4) (
    Md_text_98 z_FU ((gx_up (gx_up σ 109 4 (σ 109 19)) 109 5 ((gx_up σ 109 4 (σ 109 19)) 109 20)) 110 ((2 : Int32).toNatClampNeg)) (0 : Int32) (gx_up (gx_up (gx_up σ 109 4 (σ 109 19)) 109 5 ((gx_up σ 109 4 (σ 109 19)) 109 20)) 113 ((gx_up (gx_up σ 109 4 (σ 109 19)) 109 5 ((gx_up σ 109 4 (σ 109 19)) 109 20)) 110 ((2 : Int32).toNatClampNeg)).toNatClampNeg ((gx_up (gx_up σ 109 4 (σ 109 19)) 109 5 ((gx_up σ 109 4 (σ 109 19)) 109 20)) 109 30)))
  else
    some ((-1 : Int32), (gx_up (gx_up σ 109 4 (σ 109 19)) 109 5 ((gx_up σ 109 4 (σ 109 19)) 109 20)))
noncomputable def Md_text_44_B (K44 : gx_R → Option (Int32 × gx_R)) (σ : gx_R) : Option (Int32 × gx_R) :=
  if (σ 109 19) = 0 then
    if (σ 109 28) = (4 : Int32) then
      if (σ 109 17) = 0 then
        Md_text_72 σ
      else
        Md_text_54 K44 σ
    else
      Md_text_54 K44 σ
  else
    Md_text_72 σ
noncomputable def Md_text_44 : Nat → gx_R → Option (Int32 × gx_R)
  | 0, _ => none
  | n + 1, σ => Md_text_44_B (Md_text_44 n) σ
noncomputable def Md_text (σ : gx_R) : Option (Int32 × gx_R) :=
  if (σ 110 ((2 : Int32).toNatClampNeg)) = (4 : Int32) then
    some ((-1 : Int32), σ)
  else
    z_bd (Md_next (gx_up (gx_up (gx_up (gx_up (gx_up (gx_up (gx_up (gx_up (gx_up (gx_up (gx_up σ 109 14 (σ 109 3)) 109 3 (0 : Int32)) 109 15 (0 : Int32)) 109 19 (0 : Int32)) 109 20 (-1 : Int32)) 109 21 (0 : Int32)) 109 22 (0 : Int32)) 109 25 (0 : Int32)) 109 28 (4 : Int32)) 109 30 (0 : Int32)) 109 37 (0 : Int32))) (fun _ σ3 =>
    Md_text_44 z_FU σ3)
noncomputable def Md_fault (a1 : Int32) (σ : gx_R) : Option (Int32 × gx_R) :=
  if a1 = 0 then
    some ((σ 109 4), σ)
  else
    if a1 = (1 : Int32) then
      some ((σ 109 5), σ)
    else
      some ((-1 : Int32), σ)
noncomputable def Md_bound (l0 : Int64) (σ : gx_R) : Option (Int64 × gx_R) :=
  if (lg_cmp l0 (1000000 : Int64)) ≤ 0 then
    if 0 ≤ (lg_cmp l0 (-1000000 : Int64)) then
      some (l0, σ)
    else
      some ((-1000000 : Int64), σ)
  else
    some ((1000000 : Int64), σ)
noncomputable def Md_worked (a0 : Int32) (l1 : Int64) (l3 : Int64) (σ : gx_R) : Option (Int64 × gx_R) :=
  if a0 = (35 : Int32) then
    if (lg_cmp l1 l3) = 0 then
      some ((0 : Int64), σ)
    else
      some ((1 : Int64), σ)
  else
  if a0 = (42 : Int32) then
    z_bd (Md_bound (l1 * l3) σ) (fun r4 σ5 =>
    some (r4, σ5))
  else
  if a0 = (43 : Int32) then
    z_bd (Md_bound (l1 + l3) σ) (fun r8 σ9 =>
    some (r8, σ9))
  else
  if a0 = (45 : Int32) then
    z_bd (Md_bound (l1 - l3) σ) (fun r12 σ13 =>
    some (r12, σ13))
  else
  if a0 = (47 : Int32) then
    if (lg_cmp l3 (0 : Int64)) = 0 then
      some ((0 : Int64), σ)
    else
      z_ck (z_nzl l3) (
      some ((l1 / l3), σ))
  else
  if a0 = (60 : Int32) then
    if 0 ≤ (lg_cmp l1 l3) then
      some ((0 : Int64), σ)
    else
      some ((1 : Int64), σ)
  else
  if a0 = (61 : Int32) then
    if (lg_cmp l1 l3) = 0 then
      some ((1 : Int64), σ)
    else
      some ((0 : Int64), σ)
  else
  if a0 = (62 : Int32) then
    if (lg_cmp l1 l3) ≤ 0 then
      some ((0 : Int64), σ)
    else
      some ((1 : Int64), σ)
  else
  if a0 = (300 : Int32) then
    if 0 < (lg_cmp l1 l3) then
      some ((0 : Int64), σ)
    else
      some ((1 : Int64), σ)
  else
  if a0 = (301 : Int32) then
    if (lg_cmp l1 l3) < 0 then
      some ((0 : Int64), σ)
    else
      some ((1 : Int64), σ)
  else
  if a0 = (406 : Int32) then
    some ((l1 * l3), σ)
  else
    if (lg_cmp (l1 + l3) (0 : Int64)) ≤ 0 then
      some ((0 : Int64), σ)
    else
      some ((1 : Int64), σ)
noncomputable def Md_saysOf_63 (K130 : Int32 → Int32 → gx_R → Option (Int64 × gx_R)) (a2 : Int32) (s0 : Int32) (σ : gx_R) : Option (Int64 × gx_R) :=
  K130 a2 s0 σ
noncomputable def Md_saysOf_41 (K130 : Int32 → Int32 → gx_R → Option (Int64 × gx_R)) (a2 : Int32) (a3 : Int32) (s1 : Int32) (s2 : Int64) (σ : gx_R) : Option (Int64 × gx_R) :=
  z_ck (z_ix s1 200) (
  K130 (a2 + 1) a3 (gx_upl σ 134 s1.toNatClampNeg s2))
noncomputable def Md_saysOf_21 (K130 : Int32 → Int32 → gx_R → Option (Int64 × gx_R)) (a2 : Int32) (a3 : Int32) (a4 : Int32) (σ : gx_R) : Option (Int64 × gx_R) :=
  if a4 = (400 : Int32) then
    z_ck (z_ix a3 1600) (
    Md_saysOf_41 K130 a2 a3 a2 ((σ 120 a3.toNatClampNeg).toInt64) σ)
  else
    z_ck (z_ix a3 1600) (
    z_ck (z_ix (σ 120 a3.toNatClampNeg) 11) (
    Md_saysOf_41 K130 a2 a3 a2 ((σ 133 ((σ 120 a3.toNatClampNeg).toNatClampNeg)).toInt64) σ))
noncomputable def Md_saysOf_130 (K4 : Int32 → Int32 → gx_R → Option (Int64 × gx_R)) (a2 : Int32) (a3 : Int32) (σ : gx_R) : Option (Int64 × gx_R) :=
  K4 a2 (a3 + 1) σ
noncomputable def Md_saysOf_132 (σ : gx_R) : Option (Int64 × gx_R) :=
  some ((gx_l (σ 134) (0 : Int32).toNatClampNeg), σ)
noncomputable def Md_saysOf_4_B (K4 : Int32 → Int32 → gx_R → Option (Int64 × gx_R)) (a2 : Int32) (a3 : Int32) (σ : gx_R) : Option (Int64 × gx_R) :=
  z_ck (z_ix a3 1600) (
  if (σ 119 a3.toNatClampNeg) = (408 : Int32) then
    Md_saysOf_132 σ
  else
    z_ck (z_ix a3 1600) (
    if (σ 119 a3.toNatClampNeg) = (400 : Int32) then
      Md_saysOf_21 (Md_saysOf_130 K4) a2 a3 (σ 119 a3.toNatClampNeg) σ
    else
      if (σ 119 a3.toNatClampNeg) = (401 : Int32) then
        Md_saysOf_21 (Md_saysOf_130 K4) a2 a3 (σ 119 a3.toNatClampNeg) σ
      else
        if (σ 119 a3.toNatClampNeg) = (403 : Int32) then
          z_ck (z_ix (a2 + (-1)) 200) (
          if (lg_cmp (gx_l (σ 134) (a2 + (-1)).toNatClampNeg) (0 : Int64)) = 0 then
            z_ck (z_ix a3 1600) (
            Md_saysOf_63 (Md_saysOf_130 K4) (a2 + (-1)) ((σ 120 a3.toNatClampNeg) - (1 : Int32)) σ)
          else
            Md_saysOf_63 (Md_saysOf_130 K4) (a2 + (-1)) a3 σ)
        else
          if (σ 119 a3.toNatClampNeg) = (404 : Int32) then
            z_ck (z_ix a3 1600) (
            Md_saysOf_130 K4 a2 ((σ 120 a3.toNatClampNeg) - (1 : Int32)) σ)
          else
            if (σ 119 a3.toNatClampNeg) = (402 : Int32) then
              z_ck (z_ix (a2 - (1 : Int32)) 200) (
              z_ck (z_ix (a2 - (1 : Int32)) 200) (
              Md_saysOf_130 K4 a2 a3 (gx_upl σ 134 (a2 - (1 : Int32)).toNatClampNeg (-(gx_l (σ 134) (a2 - (1 : Int32)).toNatClampNeg)))))
            else
              if (σ 119 a3.toNatClampNeg) = (405 : Int32) then
                z_ck (z_ix (a2 - (1 : Int32)) 200) (
                z_ck (z_ix (a2 - (1 : Int32)) 200) (
                Md_saysOf_130 K4 a2 a3 (gx_upl σ 134 (a2 - (1 : Int32)).toNatClampNeg ((1 : Int64) - (gx_l (σ 134) (a2 - (1 : Int32)).toNatClampNeg)))))
              else
                z_ck (z_ix ((a2 + (-1)) - (1 : Int32)) 200) (
                z_ck (z_ix (a2 + (-1)) 200) (
                z_bd (Md_worked (σ 119 a3.toNatClampNeg) (gx_l (σ 134) ((a2 + (-1)) - (1 : Int32)).toNatClampNeg) (gx_l (σ 134) (a2 + (-1)).toNatClampNeg) σ) (fun r20 σ21 =>
                z_ck (z_ix ((a2 + (-1)) - (1 : Int32)) 200) (
                Md_saysOf_130 K4 (a2 + (-1)) a3 (gx_upl σ21 134 ((a2 + (-1)) - (1 : Int32)).toNatClampNeg r20)))))))
noncomputable def Md_saysOf_4 : Nat → Int32 → Int32 → gx_R → Option (Int64 × gx_R)
  | 0, _, _, _ => none
  | n + 1, a2, a3, σ => Md_saysOf_4_B (Md_saysOf_4 n) a2 a3 σ
noncomputable def Md_saysOf (a1 : Int32) (σ : gx_R) : Option (Int64 × gx_R) :=
  Md_saysOf_4 z_FU (0 : Int32) a1 σ
noncomputable def Md_by_15 (a1 : Int32) (σ : gx_R) : Option (Int32 × gx_R) :=
  some ((1 : Int32), (gx_up σ 110 (3 : Int32).toNatClampNeg a1))
noncomputable def Md_by (a1 : Int32) (σ : gx_R) : Option (Int32 × gx_R) :=
  if a1 = (-1 : Int32) then
    Md_by_15 a1 σ
  else
    z_bd (Md_in a1 (0 : Int32) ((σ 110 ((2 : Int32).toNatClampNeg)) - (1 : Int32)) σ) (fun r2 σ3 =>
    if r2 = 0 then
      some ((0 : Int32), σ3)
    else
      Md_by_15 a1 σ3)
noncomputable def Md_ordersOf_40 (K4 : Int32 → Int32 → Int32 → gx_R → Option (Int32 × gx_R)) (a1 : Int32) (a3 : Int32) (s0 : Int32) (σ : gx_R) : Option (Int32 × gx_R) :=
  K4 a1 s0 (a3 + 1) σ
noncomputable def Md_ordersOf_4_B (K4 : Int32 → Int32 → Int32 → gx_R → Option (Int32 × gx_R)) (a1 : Int32) (a2 : Int32) (a3 : Int32) (σ : gx_R) : Option (Int32 × gx_R) :=
  if (σ 110 ((3 : Int32).toNatClampNeg)) = (-1 : Int32) then
    some (a2, σ)
  else
    z_ck (z_ix (σ 110 ((3 : Int32).toNatClampNeg)) 4) (
    if (σ 113 ((σ 110 ((3 : Int32).toNatClampNeg)).toNatClampNeg)) ≤ a3 then
      some (a2, σ)
    else
      z_ck (z_ix (((24 : Int32) * (σ 110 ((3 : Int32).toNatClampNeg))) + a3) 96) (
      if (σ 114 ((((24 : Int32) * (σ 110 ((3 : Int32).toNatClampNeg))) + a3).toNatClampNeg)) = a1 then
        z_ck (z_ix (((24 : Int32) * (σ 110 ((3 : Int32).toNatClampNeg))) + a3) 96) (
        Md_ordersOf_40 K4 a1 a3 (σ 115 ((((24 : Int32) * (σ 110 ((3 : Int32).toNatClampNeg))) + a3).toNatClampNeg)) σ)
      else
        Md_ordersOf_40 K4 a1 a3 a2 σ))
noncomputable def Md_ordersOf_4 : Nat → Int32 → Int32 → Int32 → gx_R → Option (Int32 × gx_R)
  | 0, _, _, _, _ => none
  | n + 1, a1, a2, a3, σ => Md_ordersOf_4_B (Md_ordersOf_4 n) a1 a2 a3 σ
noncomputable def Md_ordersOf (a1 : Int32) (σ : gx_R) : Option (Int32 × gx_R) :=
  Md_ordersOf_4 z_FU a1 (-1 : Int32) (0 : Int32) σ
noncomputable def Md_held (l0 : Int64) (a2 : Int32) (a3 : Int32) (σ : gx_R) : Option (Int32 × gx_R) :=
  if 0 ≤ (lg_cmp l0 a2.toInt64) then
    if (lg_cmp l0 a3.toInt64) ≤ 0 then
      some (l0.toInt32, σ)
    else
      some (a3, σ)
  else
    some (a2, σ)
noncomputable def Md_laysNow_78_B (K78 : Int32 → gx_R → Option (Unit × gx_R)) (a1 : Int32) (σ : gx_R) : Option (Unit × gx_R) :=
  if (64 : Int32) ≤ a1 then
    some ((), σ)
  else
    z_ck (z_ix ((98 : Int32) + a1) 8880) (
    z_ck (z_ix a1 64) (
    K78 (a1 + 1) (gx_up σ 140 a1.toNatClampNeg (σ 110 (((98 : Int32) + a1).toNatClampNeg)))))
noncomputable def Md_laysNow_78 : Nat → Int32 → gx_R → Option (Unit × gx_R)
  | 0, _, _ => none
  | n + 1, a1, σ => Md_laysNow_78_B (Md_laysNow_78 n) a1 σ
noncomputable def Md_laysNow_76 (σ : gx_R) : Option (Unit × gx_R) :=
  Md_laysNow_78 z_FU (0 : Int32) σ
noncomputable def Md_laysNow_61_B (K61 : Int32 → gx_R → Option (Unit × gx_R)) (a1 : Int32) (σ : gx_R) : Option (Unit × gx_R) :=
  if (6 : Int32) ≤ a1 then
    Md_laysNow_76 σ
  else
    z_ck (z_ix ((92 : Int32) + a1) 8880) (
    z_ck (z_ix a1 6) (
    K61 (a1 + 1) (gx_up σ 139 a1.toNatClampNeg (σ 110 (((92 : Int32) + a1).toNatClampNeg)))))
noncomputable def Md_laysNow_61 : Nat → Int32 → gx_R → Option (Unit × gx_R)
  | 0, _, _ => none
  | n + 1, a1, σ => Md_laysNow_61_B (Md_laysNow_61 n) a1 σ
noncomputable def Md_laysNow_59 (σ : gx_R) : Option (Unit × gx_R) :=
  Md_laysNow_61 z_FU (0 : Int32) σ
noncomputable def Md_laysNow_14_B (K14 : Int32 → gx_R → Option (Unit × gx_R)) (a1 : Int32) (σ : gx_R) : Option (Unit × gx_R) :=
  if (8 : Int32) ≤ a1 then
    Md_laysNow_59 σ
  else
    z_ck (z_ix ((60 : Int32) + a1) 8880) (
    z_ck (z_ix a1 8) (
    z_ck (z_ix ((68 : Int32) + a1) 8880) (
    z_ck (z_ix a1 8) (
    z_ck (z_ix ((76 : Int32) + a1) 8880) (
    z_ck (z_ix a1 8) (
    z_ck (z_ix ((84 : Int32) + a1) 8880) (
    z_ck (z_ix a1 8) (
    K14 (a1 + 1) (gx_up (gx_up (gx_up (gx_up σ 135 a1.toNatClampNeg (σ 110 (((60 : Int32) + a1).toNatClampNeg))) 136 a1.toNatClampNeg ((gx_up σ 135 a1.toNatClampNeg (σ 110 (((60 : Int32) + a1).toNatClampNeg))) 110 (((68 : Int32) + a1).toNatClampNeg))) 137 a1.toNatClampNeg ((gx_up (gx_up σ 135 a1.toNatClampNeg (σ 110 (((60 : Int32) + a1).toNatClampNeg))) 136 a1.toNatClampNeg ((gx_up σ 135 a1.toNatClampNeg (σ 110 (((60 : Int32) + a1).toNatClampNeg))) 110 (((68 : Int32) + a1).toNatClampNeg))) 110 (((76 : Int32) + a1).toNatClampNeg))) 138 a1.toNatClampNeg ((gx_up (gx_up (gx_up σ 135 a1.toNatClampNeg (σ 110 (((60 : Int32) + a1).toNatClampNeg))) 136 a1.toNatClampNeg ((gx_up σ 135 a1.toNatClampNeg (σ 110 (((60 : Int32) + a1).toNatClampNeg))) 110 (((68 : Int32) + a1).toNatClampNeg))) 137 a1.toNatClampNeg ((gx_up (gx_up σ 135 a1.toNatClampNeg (σ 110 (((60 : Int32) + a1).toNatClampNeg))) 136 a1.toNatClampNeg ((gx_up σ 135 a1.toNatClampNeg (σ 110 (((60 : Int32) + a1).toNatClampNeg))) 110 (((68 : Int32) + a1).toNatClampNeg))) 110 (((76 : Int32) + a1).toNatClampNeg))) 110 (((84 : Int32) + a1).toNatClampNeg)))))))))))
noncomputable def Md_laysNow_14 : Nat → Int32 → gx_R → Option (Unit × gx_R)
  | 0, _, _ => none
  | n + 1, a1, σ => Md_laysNow_14_B (Md_laysNow_14 n) a1 σ
noncomputable def Md_laysNow (σ : gx_R) : Option (Unit × gx_R) :=
  Md_laysNow_14 z_FU (0 : Int32) (gx_up (gx_up σ 109 42 (σ 110 ((162 : Int32).toNatClampNeg))) 109 43 ((gx_up σ 109 42 (σ 110 ((162 : Int32).toNatClampNeg))) 110 ((163 : Int32).toNatClampNeg)))
noncomputable def Md_keepsNow_78_B (K78 : Int32 → gx_R → Option (Unit × gx_R)) (a1 : Int32) (σ : gx_R) : Option (Unit × gx_R) :=
  if (64 : Int32) ≤ a1 then
    some ((), σ)
  else
    z_ck (z_ix a1 64) (
    z_ck (z_ix ((98 : Int32) + a1) 8880) (
    K78 (a1 + 1) (gx_up σ 110 ((98 : Int32) + a1).toNatClampNeg (σ 140 a1.toNatClampNeg))))
noncomputable def Md_keepsNow_78 : Nat → Int32 → gx_R → Option (Unit × gx_R)
  | 0, _, _ => none
  | n + 1, a1, σ => Md_keepsNow_78_B (Md_keepsNow_78 n) a1 σ
noncomputable def Md_keepsNow_76 (σ : gx_R) : Option (Unit × gx_R) :=
  Md_keepsNow_78 z_FU (0 : Int32) σ
noncomputable def Md_keepsNow_61_B (K61 : Int32 → gx_R → Option (Unit × gx_R)) (a1 : Int32) (σ : gx_R) : Option (Unit × gx_R) :=
  if (6 : Int32) ≤ a1 then
    Md_keepsNow_76 σ
  else
    z_ck (z_ix a1 6) (
    z_ck (z_ix ((92 : Int32) + a1) 8880) (
    K61 (a1 + 1) (gx_up σ 110 ((92 : Int32) + a1).toNatClampNeg (σ 139 a1.toNatClampNeg))))
noncomputable def Md_keepsNow_61 : Nat → Int32 → gx_R → Option (Unit × gx_R)
  | 0, _, _ => none
  | n + 1, a1, σ => Md_keepsNow_61_B (Md_keepsNow_61 n) a1 σ
noncomputable def Md_keepsNow_59 (σ : gx_R) : Option (Unit × gx_R) :=
  Md_keepsNow_61 z_FU (0 : Int32) σ
noncomputable def Md_keepsNow_14_B (K14 : Int32 → gx_R → Option (Unit × gx_R)) (a1 : Int32) (σ : gx_R) : Option (Unit × gx_R) :=
  if (8 : Int32) ≤ a1 then
    Md_keepsNow_59 σ
  else
    z_ck (z_ix a1 8) (
    z_ck (z_ix ((60 : Int32) + a1) 8880) (
    z_ck (z_ix a1 8) (
    z_ck (z_ix ((68 : Int32) + a1) 8880) (
    z_ck (z_ix a1 8) (
    z_ck (z_ix ((76 : Int32) + a1) 8880) (
    z_ck (z_ix a1 8) (
    z_ck (z_ix ((84 : Int32) + a1) 8880) (
    K14 (a1 + 1) (gx_up (gx_up (gx_up (gx_up σ 110 ((60 : Int32) + a1).toNatClampNeg (σ 135 a1.toNatClampNeg)) 110 ((68 : Int32) + a1).toNatClampNeg ((gx_up σ 110 ((60 : Int32) + a1).toNatClampNeg (σ 135 a1.toNatClampNeg)) 136 a1.toNatClampNeg)) 110 ((76 : Int32) + a1).toNatClampNeg ((gx_up (gx_up σ 110 ((60 : Int32) + a1).toNatClampNeg (σ 135 a1.toNatClampNeg)) 110 ((68 : Int32) + a1).toNatClampNeg ((gx_up σ 110 ((60 : Int32) + a1).toNatClampNeg (σ 135 a1.toNatClampNeg)) 136 a1.toNatClampNeg)) 137 a1.toNatClampNeg)) 110 ((84 : Int32) + a1).toNatClampNeg ((gx_up (gx_up (gx_up σ 110 ((60 : Int32) + a1).toNatClampNeg (σ 135 a1.toNatClampNeg)) 110 ((68 : Int32) + a1).toNatClampNeg ((gx_up σ 110 ((60 : Int32) + a1).toNatClampNeg (σ 135 a1.toNatClampNeg)) 136 a1.toNatClampNeg)) 110 ((76 : Int32) + a1).toNatClampNeg ((gx_up (gx_up σ 110 ((60 : Int32) + a1).toNatClampNeg (σ 135 a1.toNatClampNeg)) 110 ((68 : Int32) + a1).toNatClampNeg ((gx_up σ 110 ((60 : Int32) + a1).toNatClampNeg (σ 135 a1.toNatClampNeg)) 136 a1.toNatClampNeg)) 137 a1.toNatClampNeg)) 138 a1.toNatClampNeg))))))))))
noncomputable def Md_keepsNow_14 : Nat → Int32 → gx_R → Option (Unit × gx_R)
  | 0, _, _ => none
  | n + 1, a1, σ => Md_keepsNow_14_B (Md_keepsNow_14 n) a1 σ
noncomputable def Md_keepsNow (σ : gx_R) : Option (Unit × gx_R) :=
  Md_keepsNow_14 z_FU (0 : Int32) (gx_up (gx_up σ 110 (162 : Int32).toNatClampNeg (σ 109 42)) 110 (163 : Int32).toNatClampNeg ((gx_up σ 110 (162 : Int32).toNatClampNeg (σ 109 42)) 109 43))
noncomputable def Md_names (a1 : Int32) (a2 : Int32) (σ : gx_R) : Option (Unit × gx_R) :=
  z_ck (z_ix ((10 : Int32) + a1) 8880) (
  some ((), (gx_up (gx_up (gx_up (gx_up σ 133 (0 : Int32).toNatClampNeg a1) 133 (1 : Int32).toNatClampNeg ((gx_up σ 133 (0 : Int32).toNatClampNeg a1) 109 42)) 133 (2 : Int32).toNatClampNeg a2) 133 (3 : Int32).toNatClampNeg ((gx_up (gx_up (gx_up σ 133 (0 : Int32).toNatClampNeg a1) 133 (1 : Int32).toNatClampNeg ((gx_up σ 133 (0 : Int32).toNatClampNeg a1) 109 42)) 133 (2 : Int32).toNatClampNeg a2) 110 (((10 : Int32) + a1).toNatClampNeg)))))
noncomputable def Md_worthBy (a1 : Int32) (a2 : Int32) (a3 : Int32) (a4 : Int32) (σ : gx_R) : Option (Int32 × gx_R) :=
  z_bd (Md_ordersOf (0 : Int32) σ) (fun r1 σ2 =>
  if r1 = (-1 : Int32) then
    some ((10 : Int32), σ2)
  else
    z_bd (Md_names a1 a2 σ2) (fun _ σ6 =>
    z_bd (Md_saysOf r1 (gx_up (gx_up σ6 133 (4 : Int32).toNatClampNeg a3) 133 (5 : Int32).toNatClampNeg a4)) (fun r8 σ9 =>
    z_bd (Md_held r8 (0 : Int32) (99 : Int32) σ9) (fun r11 σ12 =>
    some (r11, σ12)))))
noncomputable def Md_burnBy (a1 : Int32) (a2 : Int32) (a3 : Int32) (σ : gx_R) : Option (Int32 × gx_R) :=
  z_bd (Md_ordersOf (1 : Int32) σ) (fun r1 σ2 =>
  if r1 = (-1 : Int32) then
    some ((10 : Int32), σ2)
  else
    z_bd (Md_names a1 a2 σ2) (fun _ σ6 =>
    z_ck (z_ix ((48 : Int32) + a3) 8880) (
    z_bd (Md_saysOf r1 (gx_up (gx_up σ6 133 (6 : Int32).toNatClampNeg a3) 133 (7 : Int32).toNatClampNeg ((gx_up σ6 133 (6 : Int32).toNatClampNeg a3) 110 (((48 : Int32) + a3).toNatClampNeg)))) (fun r9 σ10 =>
    z_bd (Md_held r9 (0 : Int32) (99 : Int32) σ10) (fun r12 σ13 =>
    some (r12, σ13))))))
noncomputable def Md_soundOf (a1 : Int32) (σ : gx_R) : Option (Int32 × gx_R) :=
  z_bd (Md_ordersOf (2 : Int32) σ) (fun r1 σ2 =>
  z_ck (z_ix a1 8) (
  z_bd (Md_names a1 (σ2 137 a1.toNatClampNeg) σ2) (fun _ σ6 =>
  if r1 = (-1 : Int32) then
    z_ck (z_ix ((10 : Int32) + a1) 8880) (
    some ((σ6 110 (((10 : Int32) + a1).toNatClampNeg)), σ6))
  else
    z_bd (Md_saysOf r1 σ6) (fun r10 σ11 =>
    z_bd (Md_held r10 (0 : Int32) (99 : Int32) σ11) (fun r13 σ14 =>
    some (r13, σ14))))))
noncomputable def Md_priceOf (a1 : Int32) (a2 : Int32) (σ : gx_R) : Option (Int32 × gx_R) :=
  z_bd (Md_ordersOf (3 : Int32) σ) (fun r1 σ2 =>
  z_bd (Md_names a1 (0 : Int32) σ2) (fun _ σ5 =>
  z_ck (z_ix (((98 : Int32) + ((8 : Int32) * a2)) + a1) 8880) (
  if r1 = (-1 : Int32) then
    some ((1 : Int32), (gx_up σ5 133 (8 : Int32).toNatClampNeg (σ5 110 ((((98 : Int32) + ((8 : Int32) * a2)) + a1).toNatClampNeg))))
  else
    z_bd (Md_saysOf r1 (gx_up σ5 133 (8 : Int32).toNatClampNeg (σ5 110 ((((98 : Int32) + ((8 : Int32) * a2)) + a1).toNatClampNeg)))) (fun r9 σ10 =>
    z_bd (Md_held r9 (0 : Int32) (999 : Int32) σ10) (fun r12 σ13 =>
    some (r12, σ13))))))
noncomputable def Md_fuelOf_41 (K45 : Int32 → Int32 → Int32 → Int32 → Int32 → gx_R → Option (Int32 × gx_R)) (a1 : Int32) (a2 : Int32) (a3 : Int32) (a5 : Int32) (s0 : Int32) (s2 : Int32) (s3 : Int32) (s4 : Int32) (σ : gx_R) : Option (Int32 × gx_R) :=
  z_bd (Md_worthBy s2 s3 s4 a1 σ) (fun r13 σ14 =>
  K45 a1 a2 a3 (s0 + r13) a5 σ14)
noncomputable def Md_fuelOf_45 (K4 : Int32 → Int32 → Int32 → Int32 → Int32 → gx_R → Option (Int32 × gx_R)) (a1 : Int32) (a2 : Int32) (a3 : Int32) (a4 : Int32) (a5 : Int32) (σ : gx_R) : Option (Int32 × gx_R) :=
  K4 a1 a2 a3 a4 (a5 + 1) σ
noncomputable def Md_fuelOf_4_B (K4 : Int32 → Int32 → Int32 → Int32 → Int32 → gx_R → Option (Int32 × gx_R)) (a1 : Int32) (a2 : Int32) (a3 : Int32) (a4 : Int32) (a5 : Int32) (σ : gx_R) : Option (Int32 × gx_R) :=
  if (σ 110 ((0 : Int32).toNatClampNeg)) ≤ a5 then
    some (a4, σ)
  else
    z_ck (z_ix a5 8) (
    if (σ 135 a5.toNatClampNeg) = (2 : Int32) then
      z_ck (z_ix a5 8) (
      if (σ 136 a5.toNatClampNeg) = a1 then
        z_bd (Md_has a2 a5 σ) (fun r6 σ7 =>
        if r6 = 0 then
          z_ck (z_ix a5 8) (
          if a3 = 0 then
            Md_fuelOf_41 (Md_fuelOf_45 K4) a1 a2 a3 a5 a4 a5 (σ7 137 a5.toNatClampNeg) (0 : Int32) σ7
          else
            z_ck (z_ix a5 8) (
            Md_fuelOf_41 (Md_fuelOf_45 K4) a1 a2 a3 a5 a4 a5 (σ7 137 a5.toNatClampNeg) (σ7 138 a5.toNatClampNeg) σ7))
        else
          Md_fuelOf_45 K4 a1 a2 a3 a4 a5 σ7)
      else
        Md_fuelOf_45 K4 a1 a2 a3 a4 a5 σ)
    else
      Md_fuelOf_45 K4 a1 a2 a3 a4 a5 σ)
noncomputable def Md_fuelOf_4 : Nat → Int32 → Int32 → Int32 → Int32 → Int32 → gx_R → Option (Int32 × gx_R)
  | 0, _, _, _, _, _, _ => none
  | n + 1, a1, a2, a3, a4, a5, σ => Md_fuelOf_4_B (Md_fuelOf_4 n) a1 a2 a3 a4 a5 σ
noncomputable def Md_fuelOf (a1 : Int32) (a2 : Int32) (a3 : Int32) (σ : gx_R) : Option (Int32 × gx_R) :=
  Md_fuelOf_4 z_FU a1 a2 a3 (0 : Int32) (0 : Int32) σ
noncomputable def Md_allThat_22 (K4 : Int32 → Int32 → Int32 → gx_R → Option (Int32 × gx_R)) (a1 : Int32) (a3 : Int32) (s0 : Int32) (s1 : Int32) (σ : gx_R) : Option (Int32 × gx_R) :=
  K4 a1 (s0 ||| s1) (a3 + 1) σ
noncomputable def Md_allThat_4_B (K4 : Int32 → Int32 → Int32 → gx_R → Option (Int32 × gx_R)) (a1 : Int32) (a2 : Int32) (a3 : Int32) (σ : gx_R) : Option (Int32 × gx_R) :=
  if (σ 110 ((0 : Int32).toNatClampNeg)) ≤ a3 then
    some (a2, σ)
  else
    z_ck (z_ix a3 8) (
    if (σ 135 a3.toNatClampNeg) = a1 then
      Md_allThat_22 K4 a1 a3 a2 ((1 : Int32) <<< (a3 &&& 31)) σ
    else
      Md_allThat_22 K4 a1 a3 a2 (0 : Int32) σ)
noncomputable def Md_allThat_4 : Nat → Int32 → Int32 → Int32 → gx_R → Option (Int32 × gx_R)
  | 0, _, _, _, _ => none
  | n + 1, a1, a2, a3, σ => Md_allThat_4_B (Md_allThat_4 n) a1 a2 a3 σ
noncomputable def Md_allThat (a1 : Int32) (σ : gx_R) : Option (Int32 × gx_R) :=
  Md_allThat_4 z_FU a1 (0 : Int32) (0 : Int32) σ
noncomputable def Md_drawn (a1 : Int32) (σ : gx_R) : Option (Int32 × gx_R) :=
  z_ck (z_nzi a1) (
  some (((σ 109 43) - (σ 109 43) / a1 * a1), (gx_up σ 109 43 ((((σ 109 43) * (241 : Int32)) + (139 : Int32)) - (((σ 109 43) * (241 : Int32)) + (139 : Int32)) / (30211 : Int32) * (30211 : Int32)))))
noncomputable def Md_runs_76 (K36 : Int32 → Int32 → gx_R → Option (Unit × gx_R)) (a1 : Int32) (a3 : Int32) (σ : gx_R) : Option (Unit × gx_R) :=
  K36 a1 (a3 + 1) σ
noncomputable def Md_runs_36_B (K36 : Int32 → Int32 → gx_R → Option (Unit × gx_R)) (a1 : Int32) (a3 : Int32) (σ : gx_R) : Option (Unit × gx_R) :=
  if (σ 110 ((0 : Int32).toNatClampNeg)) ≤ a3 then
    some ((), σ)
  else
    z_ck (z_ix a3 8) (
    if (σ 135 a3.toNatClampNeg) = (2 : Int32) then
      z_ck (z_ix a3 8) (
      if (σ 136 a3.toNatClampNeg) = a1 then
        z_ck (z_ix (((8 : Int32) * a1) + a3) 64) (
        if (99 : Int32) ≤ (σ 140 ((((8 : Int32) * a1) + a3).toNatClampNeg)) then
          Md_runs_76 K36 a1 a3 σ
        else
          z_ck (z_ix (((8 : Int32) * a1) + a3) 64) (
          z_ck (z_ix (((8 : Int32) * a1) + a3) 64) (
          Md_runs_76 K36 a1 a3 (gx_up σ 140 (((8 : Int32) * a1) + a3).toNatClampNeg ((σ 140 ((((8 : Int32) * a1) + a3).toNatClampNeg)) + (1 : Int32))))))
      else
        Md_runs_76 K36 a1 a3 σ)
    else
      Md_runs_76 K36 a1 a3 σ)
noncomputable def Md_runs_36 : Nat → Int32 → Int32 → gx_R → Option (Unit × gx_R)
  | 0, _, _, _ => none
  | n + 1, a1, a3, σ => Md_runs_36_B (Md_runs_36 n) a1 a3 σ
noncomputable def Md_runs_32 (a1 : Int32) (s1 : Int32) (s2 : Int32) (s3 : Int32) (σ : gx_R) : Option (Unit × gx_R) :=
  z_ck (z_ix s1 6) (
  Md_runs_36 z_FU a1 (0 : Int32) (gx_up σ 139 s1.toNatClampNeg (s2 + s3)))
noncomputable def Md_runs (a1 : Int32) (σ : gx_R) : Option (Unit × gx_R) :=
  z_ck (z_ix a1 8) (
  z_ck (z_ix (σ 136 a1.toNatClampNeg) 6) (
  z_ck (z_ix (σ 136 a1.toNatClampNeg) 6) (
  z_ck (z_ix ((42 : Int32) + (σ 136 a1.toNatClampNeg)) 8880) (
  if ((gx_up σ 109 50 ((σ 109 50) ||| ((1 : Int32) <<< (a1 &&& 31)))) 110 (((42 : Int32) + (σ 136 a1.toNatClampNeg)).toNatClampNeg)) ≤ ((gx_up σ 109 50 ((σ 109 50) ||| ((1 : Int32) <<< (a1 &&& 31)))) 139 ((σ 136 a1.toNatClampNeg).toNatClampNeg)) then
    Md_runs_32 a1 (σ 136 a1.toNatClampNeg) ((gx_up σ 109 50 ((σ 109 50) ||| ((1 : Int32) <<< (a1 &&& 31)))) 139 ((σ 136 a1.toNatClampNeg).toNatClampNeg)) (0 : Int32) (gx_up σ 109 50 ((σ 109 50) ||| ((1 : Int32) <<< (a1 &&& 31))))
  else
    Md_runs_32 a1 (σ 136 a1.toNatClampNeg) ((gx_up σ 109 50 ((σ 109 50) ||| ((1 : Int32) <<< (a1 &&& 31)))) 139 ((σ 136 a1.toNatClampNeg).toNatClampNeg)) (1 : Int32) (gx_up σ 109 50 ((σ 109 50) ||| ((1 : Int32) <<< (a1 &&& 31))))))))
noncomputable def Md_wakesOn_67 (K32 : Int32 → Int32 → Int32 → Int32 → Int32 → gx_R → Option (Int32 × gx_R)) (a2 : Int32) (a3 : Int32) (a5 : Int32) (a6 : Int32) (a7 : Int32) (σ : gx_R) : Option (Int32 × gx_R) :=
  K32 a2 a3 a5 a6 (a7 + 1) σ
noncomputable def Md_wakesOn_32_B (K69 : Int32 → Int32 → Int32 → Int32 → gx_R → Option (Int32 × gx_R)) (K32 : Int32 → Int32 → Int32 → Int32 → Int32 → gx_R → Option (Int32 × gx_R)) (a2 : Int32) (a3 : Int32) (a5 : Int32) (a6 : Int32) (a7 : Int32) (σ : gx_R) : Option (Int32 × gx_R) :=
  if (σ 110 ((0 : Int32).toNatClampNeg)) ≤ a7 then
    K69 a2 a3 a5 a6 σ
  else
    z_bd (Md_has a3 a7 σ) (fun r14 σ15 =>
    if r14 = 0 then
      Md_wakesOn_67 K32 a2 a3 a5 a6 a7 σ15
    else
      z_ck (z_ix ((34 : Int32) + a6) 8880) (
      z_bd (Md_has (σ15 110 (((34 : Int32) + a6).toNatClampNeg)) a7 σ15) (fun r19 σ20 =>
      if r19 = 0 then
        Md_wakesOn_67 K32 a2 a3 a5 a6 a7 σ20
      else
        z_ck (z_ix ((18 : Int32) + a7) 8880) (
        z_bd (Md_soundOf a6 σ20) (fun r24 σ25 =>
        if (σ20 110 (((18 : Int32) + a7).toNatClampNeg)) ≤ r24 then
          Md_wakesOn_67 K32 a2 a3 a5 a6 a7 σ25
        else
          Md_wakesOn_67 K32 a2 a3 (a5 ||| ((1 : Int32) <<< (a6 &&& 31))) a6 a7 σ25)))))
noncomputable def Md_wakesOn_32 (K69 : Int32 → Int32 → Int32 → Int32 → gx_R → Option (Int32 × gx_R)) : Nat → Int32 → Int32 → Int32 → Int32 → Int32 → gx_R → Option (Int32 × gx_R)
  | 0, _, _, _, _, _, _ => none
  | n + 1, a2, a3, a5, a6, a7, σ => Md_wakesOn_32_B K69 (Md_wakesOn_32 K69 n) a2 a3 a5 a6 a7 σ
noncomputable def Md_wakesOn_69 (K10 : Int32 → Int32 → Int32 → Int32 → gx_R → Option (Int32 × gx_R)) (a2 : Int32) (a3 : Int32) (a5 : Int32) (a6 : Int32) (σ : gx_R) : Option (Int32 × gx_R) :=
  K10 a2 a3 a5 (a6 + 1) σ
noncomputable def Md_wakesOn_77 (K4 : Int32 → Int32 → Int32 → gx_R → Option (Int32 × gx_R)) (a2 : Int32) (a5 : Int32) (s0 : Int32) (σ : gx_R) : Option (Int32 × gx_R) :=
  K4 a2 a5 s0 σ
noncomputable def Md_wakesOn_71 (K4 : Int32 → Int32 → Int32 → gx_R → Option (Int32 × gx_R)) (a2 : Int32) (a3 : Int32) (a5 : Int32) (σ : gx_R) : Option (Int32 × gx_R) :=
  if a5 = a3 then
    Md_wakesOn_77 K4 a2 a5 (0 : Int32) σ
  else
    Md_wakesOn_77 K4 a2 a5 (1 : Int32) σ
noncomputable def Md_wakesOn_10_B (K4 : Int32 → Int32 → Int32 → gx_R → Option (Int32 × gx_R)) (K10 : Int32 → Int32 → Int32 → Int32 → gx_R → Option (Int32 × gx_R)) (a2 : Int32) (a3 : Int32) (a5 : Int32) (a6 : Int32) (σ : gx_R) : Option (Int32 × gx_R) :=
  if (σ 110 ((0 : Int32).toNatClampNeg)) ≤ a6 then
    Md_wakesOn_71 K4 a2 a3 a5 σ
  else
    z_ck (z_ix a6 8) (
    if (σ 135 a6.toNatClampNeg) = (2 : Int32) then
      z_bd (Md_has a3 a6 σ) (fun r5 σ6 =>
      if r5 = 0 then
        z_bd (Md_has a2 a6 σ6) (fun r9 σ10 =>
        if r9 = 0 then
          Md_wakesOn_32 (Md_wakesOn_69 K10) z_FU a2 a3 a5 a6 (0 : Int32) σ10
        else
          Md_wakesOn_69 K10 a2 a3 a5 a6 σ10)
      else
        Md_wakesOn_69 K10 a2 a3 a5 a6 σ6)
    else
      Md_wakesOn_69 K10 a2 a3 a5 a6 σ)
noncomputable def Md_wakesOn_10 (K4 : Int32 → Int32 → Int32 → gx_R → Option (Int32 × gx_R)) : Nat → Int32 → Int32 → Int32 → Int32 → gx_R → Option (Int32 × gx_R)
  | 0, _, _, _, _, _ => none
  | n + 1, a2, a3, a5, a6, σ => Md_wakesOn_10_B K4 (Md_wakesOn_10 K4 n) a2 a3 a5 a6 σ
noncomputable def Md_wakesOn_4_B (K4 : Int32 → Int32 → Int32 → gx_R → Option (Int32 × gx_R)) (a2 : Int32) (a3 : Int32) (a4 : Int32) (σ : gx_R) : Option (Int32 × gx_R) :=
  if a4 = 0 then
    some (a3, σ)
  else
    Md_wakesOn_10 K4 z_FU a2 a3 a3 (0 : Int32) σ
noncomputable def Md_wakesOn_4 : Nat → Int32 → Int32 → Int32 → gx_R → Option (Int32 × gx_R)
  | 0, _, _, _, _ => none
  | n + 1, a2, a3, a4, σ => Md_wakesOn_4_B (Md_wakesOn_4 n) a2 a3 a4 σ
noncomputable def Md_wakesOn (a1 : Int32) (a2 : Int32) (σ : gx_R) : Option (Int32 × gx_R) :=
  Md_wakesOn_4 z_FU a2 a1 (1 : Int32) σ
noncomputable def Md_wokenByNoise_57 (K18 : Int32 → Int32 → Int32 → gx_R → Option (Int32 × gx_R)) (a1 : Int32) (a2 : Int32) (a3 : Int32) (σ : gx_R) : Option (Int32 × gx_R) :=
  K18 a1 a2 (a3 + 1) σ
noncomputable def Md_wokenByNoise_18_B (K59 : Int32 → Int32 → gx_R → Option (Int32 × gx_R)) (K18 : Int32 → Int32 → Int32 → gx_R → Option (Int32 × gx_R)) (a1 : Int32) (a2 : Int32) (a3 : Int32) (σ : gx_R) : Option (Int32 × gx_R) :=
  if (σ 110 ((0 : Int32).toNatClampNeg)) ≤ a3 then
    K59 a1 a2 σ
  else
    z_bd (Md_has (σ 109 50) a3 σ) (fun r5 σ6 =>
    if r5 = 0 then
      Md_wokenByNoise_57 K18 a1 a2 a3 σ6
    else
      z_ck (z_ix ((34 : Int32) + a2) 8880) (
      z_bd (Md_has (σ6 110 (((34 : Int32) + a2).toNatClampNeg)) a3 σ6) (fun r10 σ11 =>
      if r10 = 0 then
        Md_wokenByNoise_57 K18 a1 a2 a3 σ11
      else
        z_ck (z_ix a3 8) (
        z_ck (z_ix ((48 : Int32) + (σ11 136 a3.toNatClampNeg)) 8880) (
        z_bd (Md_soundOf a2 σ11) (fun r16 σ17 =>
        if (σ11 110 (((48 : Int32) + (σ11 136 a3.toNatClampNeg)).toNatClampNeg)) ≤ r16 then
          Md_wokenByNoise_57 K18 a1 a2 a3 σ17
        else
          Md_wokenByNoise_57 K18 (a1 ||| ((1 : Int32) <<< (a2 &&& 31))) a2 a3 σ17))))))
noncomputable def Md_wokenByNoise_18 (K59 : Int32 → Int32 → gx_R → Option (Int32 × gx_R)) : Nat → Int32 → Int32 → Int32 → gx_R → Option (Int32 × gx_R)
  | 0, _, _, _, _ => none
  | n + 1, a1, a2, a3, σ => Md_wokenByNoise_18_B K59 (Md_wokenByNoise_18 K59 n) a1 a2 a3 σ
noncomputable def Md_wokenByNoise_59 (K4 : Int32 → Int32 → gx_R → Option (Int32 × gx_R)) (a1 : Int32) (a2 : Int32) (σ : gx_R) : Option (Int32 × gx_R) :=
  K4 a1 (a2 + 1) σ
noncomputable def Md_wokenByNoise_4_B (K4 : Int32 → Int32 → gx_R → Option (Int32 × gx_R)) (a1 : Int32) (a2 : Int32) (σ : gx_R) : Option (Int32 × gx_R) :=
  if (σ 110 ((0 : Int32).toNatClampNeg)) ≤ a2 then
    some (a1, σ)
  else
    z_ck (z_ix a2 8) (
    if (σ 135 a2.toNatClampNeg) = (2 : Int32) then
      Md_wokenByNoise_18 (Md_wokenByNoise_59 K4) z_FU a1 a2 (0 : Int32) σ
    else
      Md_wokenByNoise_59 K4 a1 a2 σ)
noncomputable def Md_wokenByNoise_4 : Nat → Int32 → Int32 → gx_R → Option (Int32 × gx_R)
  | 0, _, _, _ => none
  | n + 1, a1, a2, σ => Md_wokenByNoise_4_B (Md_wokenByNoise_4 n) a1 a2 σ
noncomputable def Md_wokenByNoise (σ : gx_R) : Option (Int32 × gx_R) :=
  Md_wokenByNoise_4 z_FU (0 : Int32) (0 : Int32) σ
noncomputable def Md_idles_27 (K2 : Int32 → Int32 → gx_R → Option (Unit × gx_R)) (a1 : Int32) (a2 : Int32) (σ : gx_R) : Option (Unit × gx_R) :=
  K2 a1 (a2 + 1) σ
noncomputable def Md_idles_2_B (K2 : Int32 → Int32 → gx_R → Option (Unit × gx_R)) (a1 : Int32) (a2 : Int32) (σ : gx_R) : Option (Unit × gx_R) :=
  if (σ 110 ((0 : Int32).toNatClampNeg)) ≤ a2 then
    some ((), σ)
  else
    z_bd (Md_has a1 a2 σ) (fun r2 σ3 =>
    if r2 = 0 then
      Md_idles_27 K2 a1 a2 σ3
    else
      z_ck (z_ix a2 8) (
      z_ck (z_ix a2 8) (
      z_ck (z_ix a2 8) (
      Md_idles_27 K2 a1 a2 (gx_up (gx_up (gx_up σ3 135 a2.toNatClampNeg (0 : Int32)) 136 a2.toNatClampNeg (-1 : Int32)) 137 a2.toNatClampNeg (0 : Int32))))))
noncomputable def Md_idles_2 : Nat → Int32 → Int32 → gx_R → Option (Unit × gx_R)
  | 0, _, _, _ => none
  | n + 1, a1, a2, σ => Md_idles_2_B (Md_idles_2 n) a1 a2 σ
noncomputable def Md_idles (a1 : Int32) (σ : gx_R) : Option (Unit × gx_R) :=
  Md_idles_2 z_FU a1 (0 : Int32) σ
noncomputable def Md_hourGoes_110 (K91 : Int32 → gx_R → Option (Int32 × gx_R)) (a1 : Int32) (s1 : Int32) (s2 : Int32) (s3 : Int32) (σ : gx_R) : Option (Int32 × gx_R) :=
  z_ck (z_ix s1 8) (
  K91 (a1 + 1) (gx_up σ 137 s1.toNatClampNeg (s2 + s3)))
noncomputable def Md_hourGoes_114 (σ : gx_R) : Option (Int32 × gx_R) :=
  z_bd (Md_many ((gx_up σ 109 42 ((σ 109 42) + (1 : Int32))) 109 50) (gx_up σ 109 42 ((σ 109 42) + (1 : Int32)))) (fun r40 σ41 =>
  some (r40, σ41))
noncomputable def Md_hourGoes_91_B (K91 : Int32 → gx_R → Option (Int32 × gx_R)) (a1 : Int32) (σ : gx_R) : Option (Int32 × gx_R) :=
  if (σ 110 ((0 : Int32).toNatClampNeg)) ≤ a1 then
    Md_hourGoes_114 σ
  else
    z_ck (z_ix a1 8) (
    z_ck (z_ix a1 8) (
    if (σ 135 a1.toNatClampNeg) = 0 then
      Md_hourGoes_110 K91 a1 a1 (σ 137 a1.toNatClampNeg) (0 : Int32) σ
    else
      Md_hourGoes_110 K91 a1 a1 (σ 137 a1.toNatClampNeg) (1 : Int32) σ))
noncomputable def Md_hourGoes_91 : Nat → Int32 → gx_R → Option (Int32 × gx_R)
  | 0, _, _ => none
  | n + 1, a1, σ => Md_hourGoes_91_B (Md_hourGoes_91 n) a1 σ
noncomputable def Md_hourGoes_77 (K36 : Int32 → gx_R → Option (Int32 × gx_R)) (a1 : Int32) (σ : gx_R) : Option (Int32 × gx_R) :=
  K36 (a1 + 1) σ
noncomputable def Md_hourGoes_79 (σ : gx_R) : Option (Int32 × gx_R) :=
  z_bd (Md_wokenByNoise σ) (fun r26 σ27 =>
  z_bd (Md_wakesOn r26 (0 : Int32) σ27) (fun r29 σ30 =>
  z_bd (Md_idles ((σ 109 51) ||| r29) σ30) (fun _ σ33 =>
  Md_hourGoes_91 z_FU (0 : Int32) σ33)))
noncomputable def Md_hourGoes_32 (K13 : Int32 → gx_R → Option (Int32 × gx_R)) (a1 : Int32) (σ : gx_R) : Option (Int32 × gx_R) :=
  K13 (a1 + 1) σ
noncomputable def Md_hourGoes_36_B (K36 : Int32 → gx_R → Option (Int32 × gx_R)) (a1 : Int32) (σ : gx_R) : Option (Int32 × gx_R) :=
  if (σ 110 ((0 : Int32).toNatClampNeg)) ≤ a1 then
    Md_hourGoes_79 σ
  else
    z_ck (z_ix a1 8) (
    if (σ 135 a1.toNatClampNeg) = (1 : Int32) then
      z_bd (Md_fuelOf a1 (0 : Int32) (1 : Int32) σ) (fun r14 σ15 =>
      z_ck (z_ix a1 8) (
      z_ck (z_ix a1 8) (
      z_bd (Md_burnBy a1 (σ15 137 a1.toNatClampNeg) (σ15 136 a1.toNatClampNeg) σ15) (fun r19 σ20 =>
      if r14 < r19 then
        Md_hourGoes_77 K36 a1 (gx_up σ20 109 51 ((σ20 109 51) ||| ((1 : Int32) <<< (a1 &&& 31))))
      else
        z_bd (Md_runs a1 σ20) (fun _ σ24 =>
        Md_hourGoes_77 K36 a1 σ24)))))
    else
      Md_hourGoes_77 K36 a1 σ)
noncomputable def Md_hourGoes_36 : Nat → Int32 → gx_R → Option (Int32 × gx_R)
  | 0, _, _ => none
  | n + 1, a1, σ => Md_hourGoes_36_B (Md_hourGoes_36 n) a1 σ
noncomputable def Md_hourGoes_34 (σ : gx_R) : Option (Int32 × gx_R) :=
  Md_hourGoes_36 z_FU (0 : Int32) σ
noncomputable def Md_hourGoes_13_B (K13 : Int32 → gx_R → Option (Int32 × gx_R)) (a1 : Int32) (σ : gx_R) : Option (Int32 × gx_R) :=
  if (σ 110 ((0 : Int32).toNatClampNeg)) ≤ a1 then
    Md_hourGoes_34 σ
  else
    z_ck (z_ix a1 8) (
    if (σ 135 a1.toNatClampNeg) = (2 : Int32) then
      z_bd (Md_drawn (10 : Int32) σ) (fun r7 σ8 =>
      z_ck (z_ix a1 8) (
      Md_hourGoes_32 K13 a1 (gx_up σ8 138 a1.toNatClampNeg r7)))
    else
      Md_hourGoes_32 K13 a1 σ)
noncomputable def Md_hourGoes_13 : Nat → Int32 → gx_R → Option (Int32 × gx_R)
  | 0, _, _ => none
  | n + 1, a1, σ => Md_hourGoes_13_B (Md_hourGoes_13 n) a1 σ
noncomputable def Md_hourGoes (σ : gx_R) : Option (Int32 × gx_R) :=
  z_bd (Md_allThat (2 : Int32) (gx_up (gx_up σ 109 50 (0 : Int32)) 109 51 (0 : Int32))) (fun r1 σ2 =>
  Md_hourGoes_13 z_FU (0 : Int32) (gx_up σ2 109 52 r1))
noncomputable def Md_keepsHour (σ : gx_R) : Option (Unit × gx_R) :=
  z_ck (z_ix ((164 : Int32) + ((3 : Int32) * ((σ 110 ((162 : Int32).toNatClampNeg)) - (σ 110 ((162 : Int32).toNatClampNeg)) / (60 : Int32) * (60 : Int32)))) 8880) (
  z_ck (z_ix (((164 : Int32) + ((3 : Int32) * ((σ 110 ((162 : Int32).toNatClampNeg)) - (σ 110 ((162 : Int32).toNatClampNeg)) / (60 : Int32) * (60 : Int32)))) + (1 : Int32)) 8880) (
  z_ck (z_ix (((164 : Int32) + ((3 : Int32) * ((σ 110 ((162 : Int32).toNatClampNeg)) - (σ 110 ((162 : Int32).toNatClampNeg)) / (60 : Int32) * (60 : Int32)))) + (2 : Int32)) 8880) (
  some ((), (gx_up (gx_up (gx_up σ 110 ((164 : Int32) + ((3 : Int32) * ((σ 110 ((162 : Int32).toNatClampNeg)) - (σ 110 ((162 : Int32).toNatClampNeg)) / (60 : Int32) * (60 : Int32)))).toNatClampNeg (σ 109 50)) 110 (((164 : Int32) + ((3 : Int32) * ((σ 110 ((162 : Int32).toNatClampNeg)) - (σ 110 ((162 : Int32).toNatClampNeg)) / (60 : Int32) * (60 : Int32)))) + (1 : Int32)).toNatClampNeg ((gx_up σ 110 ((164 : Int32) + ((3 : Int32) * ((σ 110 ((162 : Int32).toNatClampNeg)) - (σ 110 ((162 : Int32).toNatClampNeg)) / (60 : Int32) * (60 : Int32)))).toNatClampNeg (σ 109 50)) 109 51)) 110 (((164 : Int32) + ((3 : Int32) * ((σ 110 ((162 : Int32).toNatClampNeg)) - (σ 110 ((162 : Int32).toNatClampNeg)) / (60 : Int32) * (60 : Int32)))) + (2 : Int32)).toNatClampNeg ((gx_up (gx_up σ 110 ((164 : Int32) + ((3 : Int32) * ((σ 110 ((162 : Int32).toNatClampNeg)) - (σ 110 ((162 : Int32).toNatClampNeg)) / (60 : Int32) * (60 : Int32)))).toNatClampNeg (σ 109 50)) 110 (((164 : Int32) + ((3 : Int32) * ((σ 110 ((162 : Int32).toNatClampNeg)) - (σ 110 ((162 : Int32).toNatClampNeg)) / (60 : Int32) * (60 : Int32)))) + (1 : Int32)).toNatClampNeg ((gx_up σ 110 ((164 : Int32) + ((3 : Int32) * ((σ 110 ((162 : Int32).toNatClampNeg)) - (σ 110 ((162 : Int32).toNatClampNeg)) / (60 : Int32) * (60 : Int32)))).toNatClampNeg (σ 109 50)) 109 51)) 109 52))))))
