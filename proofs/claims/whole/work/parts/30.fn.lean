noncomputable def Jd_bitCount (a0 : Int32) (σ : gx_R) : Option (Int32 × gx_R) :=
  some (((((((((a0 - ((a0.toUInt32 >>> ((1 : Int32).toUInt32 &&& Int32.toUInt32 31)).toInt32 &&& (1431655765 : Int32))) &&& (858993459 : Int32)) + (((a0 - ((a0.toUInt32 >>> ((1 : Int32).toUInt32 &&& Int32.toUInt32 31)).toInt32 &&& (1431655765 : Int32))).toUInt32 >>> ((2 : Int32).toUInt32 &&& Int32.toUInt32 31)).toInt32 &&& (858993459 : Int32))) + ((((a0 - ((a0.toUInt32 >>> ((1 : Int32).toUInt32 &&& Int32.toUInt32 31)).toInt32 &&& (1431655765 : Int32))) &&& (858993459 : Int32)) + (((a0 - ((a0.toUInt32 >>> ((1 : Int32).toUInt32 &&& Int32.toUInt32 31)).toInt32 &&& (1431655765 : Int32))).toUInt32 >>> ((2 : Int32).toUInt32 &&& Int32.toUInt32 31)).toInt32 &&& (858993459 : Int32))).toUInt32 >>> ((4 : Int32).toUInt32 &&& Int32.toUInt32 31)).toInt32) &&& (252645135 : Int32)) + ((((((a0 - ((a0.toUInt32 >>> ((1 : Int32).toUInt32 &&& Int32.toUInt32 31)).toInt32 &&& (1431655765 : Int32))) &&& (858993459 : Int32)) + (((a0 - ((a0.toUInt32 >>> ((1 : Int32).toUInt32 &&& Int32.toUInt32 31)).toInt32 &&& (1431655765 : Int32))).toUInt32 >>> ((2 : Int32).toUInt32 &&& Int32.toUInt32 31)).toInt32 &&& (858993459 : Int32))) + ((((a0 - ((a0.toUInt32 >>> ((1 : Int32).toUInt32 &&& Int32.toUInt32 31)).toInt32 &&& (1431655765 : Int32))) &&& (858993459 : Int32)) + (((a0 - ((a0.toUInt32 >>> ((1 : Int32).toUInt32 &&& Int32.toUInt32 31)).toInt32 &&& (1431655765 : Int32))).toUInt32 >>> ((2 : Int32).toUInt32 &&& Int32.toUInt32 31)).toInt32 &&& (858993459 : Int32))).toUInt32 >>> ((4 : Int32).toUInt32 &&& Int32.toUInt32 31)).toInt32) &&& (252645135 : Int32)).toUInt32 >>> ((8 : Int32).toUInt32 &&& Int32.toUInt32 31)).toInt32) + (((((((a0 - ((a0.toUInt32 >>> ((1 : Int32).toUInt32 &&& Int32.toUInt32 31)).toInt32 &&& (1431655765 : Int32))) &&& (858993459 : Int32)) + (((a0 - ((a0.toUInt32 >>> ((1 : Int32).toUInt32 &&& Int32.toUInt32 31)).toInt32 &&& (1431655765 : Int32))).toUInt32 >>> ((2 : Int32).toUInt32 &&& Int32.toUInt32 31)).toInt32 &&& (858993459 : Int32))) + ((((a0 - ((a0.toUInt32 >>> ((1 : Int32).toUInt32 &&& Int32.toUInt32 31)).toInt32 &&& (1431655765 : Int32))) &&& (858993459 : Int32)) + (((a0 - ((a0.toUInt32 >>> ((1 : Int32).toUInt32 &&& Int32.toUInt32 31)).toInt32 &&& (1431655765 : Int32))).toUInt32 >>> ((2 : Int32).toUInt32 &&& Int32.toUInt32 31)).toInt32 &&& (858993459 : Int32))).toUInt32 >>> ((4 : Int32).toUInt32 &&& Int32.toUInt32 31)).toInt32) &&& (252645135 : Int32)) + ((((((a0 - ((a0.toUInt32 >>> ((1 : Int32).toUInt32 &&& Int32.toUInt32 31)).toInt32 &&& (1431655765 : Int32))) &&& (858993459 : Int32)) + (((a0 - ((a0.toUInt32 >>> ((1 : Int32).toUInt32 &&& Int32.toUInt32 31)).toInt32 &&& (1431655765 : Int32))).toUInt32 >>> ((2 : Int32).toUInt32 &&& Int32.toUInt32 31)).toInt32 &&& (858993459 : Int32))) + ((((a0 - ((a0.toUInt32 >>> ((1 : Int32).toUInt32 &&& Int32.toUInt32 31)).toInt32 &&& (1431655765 : Int32))) &&& (858993459 : Int32)) + (((a0 - ((a0.toUInt32 >>> ((1 : Int32).toUInt32 &&& Int32.toUInt32 31)).toInt32 &&& (1431655765 : Int32))).toUInt32 >>> ((2 : Int32).toUInt32 &&& Int32.toUInt32 31)).toInt32 &&& (858993459 : Int32))).toUInt32 >>> ((4 : Int32).toUInt32 &&& Int32.toUInt32 31)).toInt32) &&& (252645135 : Int32)).toUInt32 >>> ((8 : Int32).toUInt32 &&& Int32.toUInt32 31)).toInt32).toUInt32 >>> ((16 : Int32).toUInt32 &&& Int32.toUInt32 31)).toInt32) &&& (63 : Int32)), σ)
noncomputable def Fo_isPerson (a1 : Int32) (σ : gx_R) : Option (Int32 × gx_R) :=
  if a1 < 0 then
    some ((0 : Int32), σ)
  else
    if (σ 2 0) ≤ a1 then
      some ((0 : Int32), σ)
    else
      if (8 : Int32) ≤ a1 then
        some ((0 : Int32), σ)
      else
        some ((1 : Int32), σ)
noncomputable def Fo_isWork (a1 : Int32) (σ : gx_R) : Option (Int32 × gx_R) :=
  if a1 < 0 then
    some ((0 : Int32), σ)
  else
    if (σ 2 1) ≤ a1 then
      some ((0 : Int32), σ)
    else
      if (6 : Int32) ≤ a1 then
        some ((0 : Int32), σ)
      else
        some ((1 : Int32), σ)
noncomputable def Fo_areUnlike (a1 : Int32) (a2 : Int32) (σ : gx_R) : Option (Int32 × gx_R) :=
  if a1 = a2 then
    some ((0 : Int32), σ)
  else
    z_bd (Fo_isPerson a1 σ) (fun r2 σ3 =>
    if r2 = 0 then
      some ((0 : Int32), σ3)
    else
      z_bd (Fo_isPerson a2 σ3) (fun r6 σ7 =>
      if r6 = 0 then
        some ((0 : Int32), σ7)
      else
        some ((1 : Int32), σ7)))
noncomputable def Fo_everyone (σ : gx_R) : Option (Int32 × gx_R) :=
  some ((((1 : Int32) <<< ((σ 2 0) &&& 31)) - (1 : Int32)), σ)
noncomputable def Fo_isGroup (a1 : Int32) (a2 : Int32) (a3 : Int32) (σ : gx_R) : Option (Int32 × gx_R) :=
  z_bd (Jd_bitCount a1 σ) (fun r1 σ2 =>
  z_bd (Fo_everyone σ2) (fun r4 σ5 =>
  if (a1 &&& (r4 ^^^ (-1 : Int32))) = 0 then
    if r1 < a2 then
      some ((0 : Int32), σ5)
    else
      if a3 < r1 then
        some ((0 : Int32), σ5)
      else
        some ((1 : Int32), σ5)
  else
    some ((0 : Int32), σ5)))
noncomputable def Fo_copy (b0 : Nat) (b1 : Nat) (σ : gx_R) : Option (Unit × gx_R) :=
  some ((), (gx_cp (gx_cp (gx_cp (gx_cp (gx_cp (gx_cp (gx_up (gx_up σ b0 0 (σ b1 0)) b0 1 ((gx_up σ b0 0 (σ b1 0)) b1 1)) (b1 + 1) (b0 + 1) (0 : Int32).toNatClampNeg (0 : Int32).toNatClampNeg (8 : Int32).toNatClampNeg) (b1 + 2) (b0 + 2) (0 : Int32).toNatClampNeg (0 : Int32).toNatClampNeg (8 : Int32).toNatClampNeg) (b1 + 3) (b0 + 3) (0 : Int32).toNatClampNeg (0 : Int32).toNatClampNeg (8 : Int32).toNatClampNeg) (b1 + 4) (b0 + 4) (0 : Int32).toNatClampNeg (0 : Int32).toNatClampNeg (8 : Int32).toNatClampNeg) (b1 + 5) (b0 + 5) (0 : Int32).toNatClampNeg (0 : Int32).toNatClampNeg (6 : Int32).toNatClampNeg) (b1 + 6) (b0 + 6) (0 : Int32).toNatClampNeg (0 : Int32).toNatClampNeg (6 : Int32).toNatClampNeg))
noncomputable def Ni_those_19 (K4 : Nat → Int32 → Int32 → Int32 → gx_R → Option (Int32 × gx_R)) (b0 : Nat) (a1 : Int32) (a2 : Int32) (a3 : Int32) (σ : gx_R) : Option (Int32 × gx_R) :=
  K4 b0 a1 a2 (a3 + 1) σ
noncomputable def Ni_those_4_B (K4 : Nat → Int32 → Int32 → Int32 → gx_R → Option (Int32 × gx_R)) (b0 : Nat) (a1 : Int32) (a2 : Int32) (a3 : Int32) (σ : gx_R) : Option (Int32 × gx_R) :=
  if (8 : Int32) ≤ a3 then
    some (a2, σ)
  else
    z_ck (z_ix a3 8) (
    if (σ (b0 + 1) a3.toNatClampNeg) = a1 then
      Ni_those_19 K4 b0 a1 (a2 ||| ((1 : Int32) <<< (a3 &&& 31))) a3 σ
    else
      Ni_those_19 K4 b0 a1 a2 a3 σ)
noncomputable def Ni_those_4 : Nat → Nat → Int32 → Int32 → Int32 → gx_R → Option (Int32 × gx_R)
  | 0, _, _, _, _, _ => none
  | n + 1, b0, a1, a2, a3, σ => Ni_those_4_B (Ni_those_4 n) b0 a1 a2 a3 σ
noncomputable def Ni_those (b0 : Nat) (a1 : Int32) (σ : gx_R) : Option (Int32 × gx_R) :=
  Ni_those_4 z_FU b0 a1 (0 : Int32) (0 : Int32) σ
noncomputable def Ni_sleepsFor (b0 : Nat) (a1 : Int32) (a2 : Int32) (σ : gx_R) : Option (Int32 × gx_R) :=
  z_ck (z_ix a1 8) (
  if (σ (b0 + 1) a1.toNatClampNeg) = (2 : Int32) then
    z_ck (z_ix a1 8) (
    if (σ (b0 + 2) a1.toNatClampNeg) = a2 then
      some ((1 : Int32), σ)
    else
      some ((0 : Int32), σ))
  else
    some ((0 : Int32), σ))
noncomputable def Ni_begin (b0 : Nat) (a1 : Int32) (a2 : Int32) (a3 : Int32) (σ : gx_R) : Option (Unit × gx_R) :=
  z_ck (z_ix a1 8) (
  z_ck (z_ix a1 8) (
  z_ck (z_ix a1 8) (
  some ((), (gx_up (gx_up (gx_up σ (b0 + 1) a1.toNatClampNeg a2) (b0 + 2) a1.toNatClampNeg a3) (b0 + 3) a1.toNatClampNeg (0 : Int32))))))
noncomputable def Ni_makeIdle_17 (K2 : Nat → Int32 → Int32 → gx_R → Option (Unit × gx_R)) (b0 : Nat) (a1 : Int32) (a2 : Int32) (σ : gx_R) : Option (Unit × gx_R) :=
  K2 b0 a1 (a2 + 1) σ
noncomputable def Ni_makeIdle_2_B (K2 : Nat → Int32 → Int32 → gx_R → Option (Unit × gx_R)) (b0 : Nat) (a1 : Int32) (a2 : Int32) (σ : gx_R) : Option (Unit × gx_R) :=
  if (8 : Int32) ≤ a2 then
    some ((), σ)
  else
    if ((a1 >>> (a2 &&& 31)) &&& (1 : Int32)) = (1 : Int32) then
      z_bd (Ni_begin b0 a2 (0 : Int32) (-1 : Int32) σ) (fun _ σ4 =>
      Ni_makeIdle_17 K2 b0 a1 a2 σ4)
    else
      Ni_makeIdle_17 K2 b0 a1 a2 σ
noncomputable def Ni_makeIdle_2 : Nat → Nat → Int32 → Int32 → gx_R → Option (Unit × gx_R)
  | 0, _, _, _, _ => none
  | n + 1, b0, a1, a2, σ => Ni_makeIdle_2_B (Ni_makeIdle_2 n) b0 a1 a2 σ
noncomputable def Ni_makeIdle (b0 : Nat) (a1 : Int32) (σ : gx_R) : Option (Unit × gx_R) :=
  Ni_makeIdle_2 z_FU b0 a1 (0 : Int32) σ
noncomputable def Ni_draw_8 (b0 : Nat) (s0 : Int32) (σ : gx_R) : Option (Int32 × gx_R) :=
  some (s0, (gx_up σ b0 7 ((((σ b0 7) * (241 : Int32)) + (139 : Int32)) - (((σ b0 7) * (241 : Int32)) + (139 : Int32)) / (30211 : Int32) * (30211 : Int32))))
noncomputable def Ni_draw (b0 : Nat) (a1 : Int32) (σ : gx_R) : Option (Int32 × gx_R) :=
  if a1 ≤ 0 then
    Ni_draw_8 b0 (0 : Int32) σ
  else
    z_ck (z_nzi a1) (
    Ni_draw_8 b0 ((σ b0 7) - (σ b0 7) / a1 * a1) σ)
noncomputable def Ni_save (a2 : Int32) (σ : gx_R) : Option (Unit × gx_R) :=
  if a2 < 0 then
    some ((), σ)
  else
    if a2 ≤ ((nI 3120) - (104 : Int32)) then
      z_ck (z_cpk (0 : Int32) a2 (8 : Int32) 8 3120) (
      z_ck (z_cpk (0 : Int32) (a2 + (8 : Int32)) (8 : Int32) 8 3120) (
      z_ck (z_cpk (0 : Int32) (a2 + (16 : Int32)) (8 : Int32) 8 3120) (
      z_ck (z_cpk (0 : Int32) (a2 + (24 : Int32)) (8 : Int32) 8 3120) (
      z_ck (z_cpk (0 : Int32) (a2 + (32 : Int32)) (64 : Int32) 64 3120) (
      z_ck (z_cpk (0 : Int32) ((a2 + (32 : Int32)) + (64 : Int32)) (6 : Int32) 6 3120) (
      z_ck (z_ix ((a2 + (104 : Int32)) - (2 : Int32)) 3120) (
      z_ck (z_ix ((a2 + (104 : Int32)) - (1 : Int32)) 3120) (
      some ((), (gx_up (gx_up (gx_cp (gx_cp (gx_cp (gx_cp (gx_cp (gx_cp σ 10 17 (0 : Int32).toNatClampNeg a2.toNatClampNeg (8 : Int32).toNatClampNeg) 11 17 (0 : Int32).toNatClampNeg (a2 + (8 : Int32)).toNatClampNeg (8 : Int32).toNatClampNeg) 12 17 (0 : Int32).toNatClampNeg (a2 + (16 : Int32)).toNatClampNeg (8 : Int32).toNatClampNeg) 13 17 (0 : Int32).toNatClampNeg (a2 + (24 : Int32)).toNatClampNeg (8 : Int32).toNatClampNeg) 14 17 (0 : Int32).toNatClampNeg (a2 + (32 : Int32)).toNatClampNeg (64 : Int32).toNatClampNeg) 15 17 (0 : Int32).toNatClampNeg ((a2 + (32 : Int32)) + (64 : Int32)).toNatClampNeg (6 : Int32).toNatClampNeg) 17 ((a2 + (104 : Int32)) - (2 : Int32)).toNatClampNeg ((gx_cp (gx_cp (gx_cp (gx_cp (gx_cp (gx_cp σ 10 17 (0 : Int32).toNatClampNeg a2.toNatClampNeg (8 : Int32).toNatClampNeg) 11 17 (0 : Int32).toNatClampNeg (a2 + (8 : Int32)).toNatClampNeg (8 : Int32).toNatClampNeg) 12 17 (0 : Int32).toNatClampNeg (a2 + (16 : Int32)).toNatClampNeg (8 : Int32).toNatClampNeg) 13 17 (0 : Int32).toNatClampNeg (a2 + (24 : Int32)).toNatClampNeg (8 : Int32).toNatClampNeg) 14 17 (0 : Int32).toNatClampNeg (a2 + (32 : Int32)).toNatClampNeg (64 : Int32).toNatClampNeg) 15 17 (0 : Int32).toNatClampNeg ((a2 + (32 : Int32)) + (64 : Int32)).toNatClampNeg (6 : Int32).toNatClampNeg) 9 6)) 17 ((a2 + (104 : Int32)) - (1 : Int32)).toNatClampNeg ((gx_up (gx_cp (gx_cp (gx_cp (gx_cp (gx_cp (gx_cp σ 10 17 (0 : Int32).toNatClampNeg a2.toNatClampNeg (8 : Int32).toNatClampNeg) 11 17 (0 : Int32).toNatClampNeg (a2 + (8 : Int32)).toNatClampNeg (8 : Int32).toNatClampNeg) 12 17 (0 : Int32).toNatClampNeg (a2 + (16 : Int32)).toNatClampNeg (8 : Int32).toNatClampNeg) 13 17 (0 : Int32).toNatClampNeg (a2 + (24 : Int32)).toNatClampNeg (8 : Int32).toNatClampNeg) 14 17 (0 : Int32).toNatClampNeg (a2 + (32 : Int32)).toNatClampNeg (64 : Int32).toNatClampNeg) 15 17 (0 : Int32).toNatClampNeg ((a2 + (32 : Int32)) + (64 : Int32)).toNatClampNeg (6 : Int32).toNatClampNeg) 17 ((a2 + (104 : Int32)) - (2 : Int32)).toNatClampNeg ((gx_cp (gx_cp (gx_cp (gx_cp (gx_cp (gx_cp σ 10 17 (0 : Int32).toNatClampNeg a2.toNatClampNeg (8 : Int32).toNatClampNeg) 11 17 (0 : Int32).toNatClampNeg (a2 + (8 : Int32)).toNatClampNeg (8 : Int32).toNatClampNeg) 12 17 (0 : Int32).toNatClampNeg (a2 + (16 : Int32)).toNatClampNeg (8 : Int32).toNatClampNeg) 13 17 (0 : Int32).toNatClampNeg (a2 + (24 : Int32)).toNatClampNeg (8 : Int32).toNatClampNeg) 14 17 (0 : Int32).toNatClampNeg (a2 + (32 : Int32)).toNatClampNeg (64 : Int32).toNatClampNeg) 15 17 (0 : Int32).toNatClampNeg ((a2 + (32 : Int32)) + (64 : Int32)).toNatClampNeg (6 : Int32).toNatClampNeg) 9 6)) 9 7)))))))))))
    else
      some ((), σ)
noncomputable def Ni_load (a2 : Int32) (σ : gx_R) : Option (Unit × gx_R) :=
  if a2 < 0 then
    some ((), σ)
  else
    if a2 ≤ ((nI 3120) - (104 : Int32)) then
      z_ck (z_cpk a2 (0 : Int32) (8 : Int32) 3120 8) (
      z_ck (z_cpk (a2 + (8 : Int32)) (0 : Int32) (8 : Int32) 3120 8) (
      z_ck (z_cpk (a2 + (16 : Int32)) (0 : Int32) (8 : Int32) 3120 8) (
      z_ck (z_cpk (a2 + (24 : Int32)) (0 : Int32) (8 : Int32) 3120 8) (
      z_ck (z_cpk (a2 + (32 : Int32)) (0 : Int32) (64 : Int32) 3120 64) (
      z_ck (z_cpk ((a2 + (32 : Int32)) + (64 : Int32)) (0 : Int32) (6 : Int32) 3120 6) (
      z_ck (z_ix ((a2 + (104 : Int32)) - (2 : Int32)) 3120) (
      z_ck (z_ix ((a2 + (104 : Int32)) - (1 : Int32)) 3120) (
      some ((), (gx_up (gx_up (gx_cp (gx_cp (gx_cp (gx_cp (gx_cp (gx_cp σ 17 10 a2.toNatClampNeg (0 : Int32).toNatClampNeg (8 : Int32).toNatClampNeg) 17 11 (a2 + (8 : Int32)).toNatClampNeg (0 : Int32).toNatClampNeg (8 : Int32).toNatClampNeg) 17 12 (a2 + (16 : Int32)).toNatClampNeg (0 : Int32).toNatClampNeg (8 : Int32).toNatClampNeg) 17 13 (a2 + (24 : Int32)).toNatClampNeg (0 : Int32).toNatClampNeg (8 : Int32).toNatClampNeg) 17 14 (a2 + (32 : Int32)).toNatClampNeg (0 : Int32).toNatClampNeg (64 : Int32).toNatClampNeg) 17 15 ((a2 + (32 : Int32)) + (64 : Int32)).toNatClampNeg (0 : Int32).toNatClampNeg (6 : Int32).toNatClampNeg) 9 6 ((gx_cp (gx_cp (gx_cp (gx_cp (gx_cp (gx_cp σ 17 10 a2.toNatClampNeg (0 : Int32).toNatClampNeg (8 : Int32).toNatClampNeg) 17 11 (a2 + (8 : Int32)).toNatClampNeg (0 : Int32).toNatClampNeg (8 : Int32).toNatClampNeg) 17 12 (a2 + (16 : Int32)).toNatClampNeg (0 : Int32).toNatClampNeg (8 : Int32).toNatClampNeg) 17 13 (a2 + (24 : Int32)).toNatClampNeg (0 : Int32).toNatClampNeg (8 : Int32).toNatClampNeg) 17 14 (a2 + (32 : Int32)).toNatClampNeg (0 : Int32).toNatClampNeg (64 : Int32).toNatClampNeg) 17 15 ((a2 + (32 : Int32)) + (64 : Int32)).toNatClampNeg (0 : Int32).toNatClampNeg (6 : Int32).toNatClampNeg) 17 (((a2 + (104 : Int32)) - (2 : Int32)).toNatClampNeg))) 9 7 ((gx_up (gx_cp (gx_cp (gx_cp (gx_cp (gx_cp (gx_cp σ 17 10 a2.toNatClampNeg (0 : Int32).toNatClampNeg (8 : Int32).toNatClampNeg) 17 11 (a2 + (8 : Int32)).toNatClampNeg (0 : Int32).toNatClampNeg (8 : Int32).toNatClampNeg) 17 12 (a2 + (16 : Int32)).toNatClampNeg (0 : Int32).toNatClampNeg (8 : Int32).toNatClampNeg) 17 13 (a2 + (24 : Int32)).toNatClampNeg (0 : Int32).toNatClampNeg (8 : Int32).toNatClampNeg) 17 14 (a2 + (32 : Int32)).toNatClampNeg (0 : Int32).toNatClampNeg (64 : Int32).toNatClampNeg) 17 15 ((a2 + (32 : Int32)) + (64 : Int32)).toNatClampNeg (0 : Int32).toNatClampNeg (6 : Int32).toNatClampNeg) 9 6 ((gx_cp (gx_cp (gx_cp (gx_cp (gx_cp (gx_cp σ 17 10 a2.toNatClampNeg (0 : Int32).toNatClampNeg (8 : Int32).toNatClampNeg) 17 11 (a2 + (8 : Int32)).toNatClampNeg (0 : Int32).toNatClampNeg (8 : Int32).toNatClampNeg) 17 12 (a2 + (16 : Int32)).toNatClampNeg (0 : Int32).toNatClampNeg (8 : Int32).toNatClampNeg) 17 13 (a2 + (24 : Int32)).toNatClampNeg (0 : Int32).toNatClampNeg (8 : Int32).toNatClampNeg) 17 14 (a2 + (32 : Int32)).toNatClampNeg (0 : Int32).toNatClampNeg (64 : Int32).toNatClampNeg) 17 15 ((a2 + (32 : Int32)) + (64 : Int32)).toNatClampNeg (0 : Int32).toNatClampNeg (6 : Int32).toNatClampNeg) 17 (((a2 + (104 : Int32)) - (2 : Int32)).toNatClampNeg))) 17 (((a2 + (104 : Int32)) - (1 : Int32)).toNatClampNeg))))))))))))
    else
      some ((), σ)
noncomputable def Ni_copy (b0 : Nat) (b1 : Nat) (σ : gx_R) : Option (Unit × gx_R) :=
  some ((), (gx_up (gx_up (gx_cp (gx_cp (gx_cp (gx_cp (gx_cp (gx_cp σ (b1 + 1) (b0 + 1) (0 : Int32).toNatClampNeg (0 : Int32).toNatClampNeg (8 : Int32).toNatClampNeg) (b1 + 2) (b0 + 2) (0 : Int32).toNatClampNeg (0 : Int32).toNatClampNeg (8 : Int32).toNatClampNeg) (b1 + 3) (b0 + 3) (0 : Int32).toNatClampNeg (0 : Int32).toNatClampNeg (8 : Int32).toNatClampNeg) (b1 + 4) (b0 + 4) (0 : Int32).toNatClampNeg (0 : Int32).toNatClampNeg (8 : Int32).toNatClampNeg) (b1 + 5) (b0 + 5) (0 : Int32).toNatClampNeg (0 : Int32).toNatClampNeg (64 : Int32).toNatClampNeg) (b1 + 6) (b0 + 6) (0 : Int32).toNatClampNeg (0 : Int32).toNatClampNeg (6 : Int32).toNatClampNeg) b0 6 ((gx_cp (gx_cp (gx_cp (gx_cp (gx_cp (gx_cp σ (b1 + 1) (b0 + 1) (0 : Int32).toNatClampNeg (0 : Int32).toNatClampNeg (8 : Int32).toNatClampNeg) (b1 + 2) (b0 + 2) (0 : Int32).toNatClampNeg (0 : Int32).toNatClampNeg (8 : Int32).toNatClampNeg) (b1 + 3) (b0 + 3) (0 : Int32).toNatClampNeg (0 : Int32).toNatClampNeg (8 : Int32).toNatClampNeg) (b1 + 4) (b0 + 4) (0 : Int32).toNatClampNeg (0 : Int32).toNatClampNeg (8 : Int32).toNatClampNeg) (b1 + 5) (b0 + 5) (0 : Int32).toNatClampNeg (0 : Int32).toNatClampNeg (64 : Int32).toNatClampNeg) (b1 + 6) (b0 + 6) (0 : Int32).toNatClampNeg (0 : Int32).toNatClampNeg (6 : Int32).toNatClampNeg) b1 6)) b0 7 ((gx_up (gx_cp (gx_cp (gx_cp (gx_cp (gx_cp (gx_cp σ (b1 + 1) (b0 + 1) (0 : Int32).toNatClampNeg (0 : Int32).toNatClampNeg (8 : Int32).toNatClampNeg) (b1 + 2) (b0 + 2) (0 : Int32).toNatClampNeg (0 : Int32).toNatClampNeg (8 : Int32).toNatClampNeg) (b1 + 3) (b0 + 3) (0 : Int32).toNatClampNeg (0 : Int32).toNatClampNeg (8 : Int32).toNatClampNeg) (b1 + 4) (b0 + 4) (0 : Int32).toNatClampNeg (0 : Int32).toNatClampNeg (8 : Int32).toNatClampNeg) (b1 + 5) (b0 + 5) (0 : Int32).toNatClampNeg (0 : Int32).toNatClampNeg (64 : Int32).toNatClampNeg) (b1 + 6) (b0 + 6) (0 : Int32).toNatClampNeg (0 : Int32).toNatClampNeg (6 : Int32).toNatClampNeg) b0 6 ((gx_cp (gx_cp (gx_cp (gx_cp (gx_cp (gx_cp σ (b1 + 1) (b0 + 1) (0 : Int32).toNatClampNeg (0 : Int32).toNatClampNeg (8 : Int32).toNatClampNeg) (b1 + 2) (b0 + 2) (0 : Int32).toNatClampNeg (0 : Int32).toNatClampNeg (8 : Int32).toNatClampNeg) (b1 + 3) (b0 + 3) (0 : Int32).toNatClampNeg (0 : Int32).toNatClampNeg (8 : Int32).toNatClampNeg) (b1 + 4) (b0 + 4) (0 : Int32).toNatClampNeg (0 : Int32).toNatClampNeg (8 : Int32).toNatClampNeg) (b1 + 5) (b0 + 5) (0 : Int32).toNatClampNeg (0 : Int32).toNatClampNeg (64 : Int32).toNatClampNeg) (b1 + 6) (b0 + 6) (0 : Int32).toNatClampNeg (0 : Int32).toNatClampNeg (6 : Int32).toNatClampNeg) b1 6)) b1 7)))
noncomputable def Te_clear_8_B (K8 : Int32 → gx_R → Option (Unit × gx_R)) (a1 : Int32) (σ : gx_R) : Option (Unit × gx_R) :=
  if (4 : Int32) ≤ a1 then
    some ((), σ)
  else
    z_ck (z_ix a1 4) (
    K8 (a1 + 1) (gx_up σ 48 a1.toNatClampNeg (-1 : Int32)))
noncomputable def Te_clear_8 : Nat → Int32 → gx_R → Option (Unit × gx_R)
  | 0, _, _ => none
  | n + 1, a1, σ => Te_clear_8_B (Te_clear_8 n) a1 σ
noncomputable def Te_clear (σ : gx_R) : Option (Unit × gx_R) :=
  Te_clear_8 z_FU (0 : Int32) (gx_up (gx_up σ 43 4 (0 : Int32)) 43 7 (0 : Int32))
noncomputable def Te_put (a1 : Int32) (σ : gx_R) : Option (Unit × gx_R) :=
  if (nI 300) ≤ (σ 43 7) then
    some ((), σ)
  else
    z_ck (z_ix (σ 43 7) 300) (
    some ((), (gx_up (gx_up σ 49 (σ 43 7).toNatClampNeg a1) 43 7 (((gx_up σ 49 (σ 43 7).toNatClampNeg a1) 43 7) + (1 : Int32)))))
noncomputable def Te_goOnHere (a1 : Int32) (σ : gx_R) : Option (Unit × gx_R) :=
  if a1 < 0 then
    some ((), σ)
  else
    if (σ 43 7) ≤ a1 then
      some ((), σ)
    else
      z_ck (z_ix a1 300) (
      z_ck (z_ix a1 300) (
      some ((), (gx_up σ 49 a1.toNatClampNeg (((σ 43 7) * (64 : Int32)) + ((σ 49 a1.toNatClampNeg) &&& (63 : Int32)))))))
noncomputable def Te_copy (b0 : Nat) (σ : gx_R) : Option (Unit × gx_R) :=
  z_ck (z_cpk (0 : Int32) (0 : Int32) ((gx_cp (gx_cp (gx_cp (gx_cp (gx_cp σ 44 (b0 + 1) (0 : Int32).toNatClampNeg (0 : Int32).toNatClampNeg (24 : Int32).toNatClampNeg) 45 (b0 + 2) (0 : Int32).toNatClampNeg (0 : Int32).toNatClampNeg (24 : Int32).toNatClampNeg) 46 (b0 + 3) (0 : Int32).toNatClampNeg (0 : Int32).toNatClampNeg (24 : Int32).toNatClampNeg) 47 (b0 + 4) (0 : Int32).toNatClampNeg (0 : Int32).toNatClampNeg (24 : Int32).toNatClampNeg) 48 (b0 + 5) (0 : Int32).toNatClampNeg (0 : Int32).toNatClampNeg (4 : Int32).toNatClampNeg) 43 7) 300 300) (
  some ((), (gx_up (gx_up (gx_cp (gx_cp (gx_cp (gx_cp (gx_cp (gx_cp σ 44 (b0 + 1) (0 : Int32).toNatClampNeg (0 : Int32).toNatClampNeg (24 : Int32).toNatClampNeg) 45 (b0 + 2) (0 : Int32).toNatClampNeg (0 : Int32).toNatClampNeg (24 : Int32).toNatClampNeg) 46 (b0 + 3) (0 : Int32).toNatClampNeg (0 : Int32).toNatClampNeg (24 : Int32).toNatClampNeg) 47 (b0 + 4) (0 : Int32).toNatClampNeg (0 : Int32).toNatClampNeg (24 : Int32).toNatClampNeg) 48 (b0 + 5) (0 : Int32).toNatClampNeg (0 : Int32).toNatClampNeg (4 : Int32).toNatClampNeg) 49 (b0 + 6) (0 : Int32).toNatClampNeg (0 : Int32).toNatClampNeg ((gx_cp (gx_cp (gx_cp (gx_cp (gx_cp σ 44 (b0 + 1) (0 : Int32).toNatClampNeg (0 : Int32).toNatClampNeg (24 : Int32).toNatClampNeg) 45 (b0 + 2) (0 : Int32).toNatClampNeg (0 : Int32).toNatClampNeg (24 : Int32).toNatClampNeg) 46 (b0 + 3) (0 : Int32).toNatClampNeg (0 : Int32).toNatClampNeg (24 : Int32).toNatClampNeg) 47 (b0 + 4) (0 : Int32).toNatClampNeg (0 : Int32).toNatClampNeg (24 : Int32).toNatClampNeg) 48 (b0 + 5) (0 : Int32).toNatClampNeg (0 : Int32).toNatClampNeg (4 : Int32).toNatClampNeg) 43 7).toNatClampNeg) b0 4 ((gx_cp (gx_cp (gx_cp (gx_cp (gx_cp (gx_cp σ 44 (b0 + 1) (0 : Int32).toNatClampNeg (0 : Int32).toNatClampNeg (24 : Int32).toNatClampNeg) 45 (b0 + 2) (0 : Int32).toNatClampNeg (0 : Int32).toNatClampNeg (24 : Int32).toNatClampNeg) 46 (b0 + 3) (0 : Int32).toNatClampNeg (0 : Int32).toNatClampNeg (24 : Int32).toNatClampNeg) 47 (b0 + 4) (0 : Int32).toNatClampNeg (0 : Int32).toNatClampNeg (24 : Int32).toNatClampNeg) 48 (b0 + 5) (0 : Int32).toNatClampNeg (0 : Int32).toNatClampNeg (4 : Int32).toNatClampNeg) 49 (b0 + 6) (0 : Int32).toNatClampNeg (0 : Int32).toNatClampNeg ((gx_cp (gx_cp (gx_cp (gx_cp (gx_cp σ 44 (b0 + 1) (0 : Int32).toNatClampNeg (0 : Int32).toNatClampNeg (24 : Int32).toNatClampNeg) 45 (b0 + 2) (0 : Int32).toNatClampNeg (0 : Int32).toNatClampNeg (24 : Int32).toNatClampNeg) 46 (b0 + 3) (0 : Int32).toNatClampNeg (0 : Int32).toNatClampNeg (24 : Int32).toNatClampNeg) 47 (b0 + 4) (0 : Int32).toNatClampNeg (0 : Int32).toNatClampNeg (24 : Int32).toNatClampNeg) 48 (b0 + 5) (0 : Int32).toNatClampNeg (0 : Int32).toNatClampNeg (4 : Int32).toNatClampNeg) 43 7).toNatClampNeg) 43 4)) b0 7 ((gx_up (gx_cp (gx_cp (gx_cp (gx_cp (gx_cp (gx_cp σ 44 (b0 + 1) (0 : Int32).toNatClampNeg (0 : Int32).toNatClampNeg (24 : Int32).toNatClampNeg) 45 (b0 + 2) (0 : Int32).toNatClampNeg (0 : Int32).toNatClampNeg (24 : Int32).toNatClampNeg) 46 (b0 + 3) (0 : Int32).toNatClampNeg (0 : Int32).toNatClampNeg (24 : Int32).toNatClampNeg) 47 (b0 + 4) (0 : Int32).toNatClampNeg (0 : Int32).toNatClampNeg (24 : Int32).toNatClampNeg) 48 (b0 + 5) (0 : Int32).toNatClampNeg (0 : Int32).toNatClampNeg (4 : Int32).toNatClampNeg) 49 (b0 + 6) (0 : Int32).toNatClampNeg (0 : Int32).toNatClampNeg ((gx_cp (gx_cp (gx_cp (gx_cp (gx_cp σ 44 (b0 + 1) (0 : Int32).toNatClampNeg (0 : Int32).toNatClampNeg (24 : Int32).toNatClampNeg) 45 (b0 + 2) (0 : Int32).toNatClampNeg (0 : Int32).toNatClampNeg (24 : Int32).toNatClampNeg) 46 (b0 + 3) (0 : Int32).toNatClampNeg (0 : Int32).toNatClampNeg (24 : Int32).toNatClampNeg) 47 (b0 + 4) (0 : Int32).toNatClampNeg (0 : Int32).toNatClampNeg (24 : Int32).toNatClampNeg) 48 (b0 + 5) (0 : Int32).toNatClampNeg (0 : Int32).toNatClampNeg (4 : Int32).toNatClampNeg) 43 7).toNatClampNeg) b0 4 ((gx_cp (gx_cp (gx_cp (gx_cp (gx_cp (gx_cp σ 44 (b0 + 1) (0 : Int32).toNatClampNeg (0 : Int32).toNatClampNeg (24 : Int32).toNatClampNeg) 45 (b0 + 2) (0 : Int32).toNatClampNeg (0 : Int32).toNatClampNeg (24 : Int32).toNatClampNeg) 46 (b0 + 3) (0 : Int32).toNatClampNeg (0 : Int32).toNatClampNeg (24 : Int32).toNatClampNeg) 47 (b0 + 4) (0 : Int32).toNatClampNeg (0 : Int32).toNatClampNeg (24 : Int32).toNatClampNeg) 48 (b0 + 5) (0 : Int32).toNatClampNeg (0 : Int32).toNatClampNeg (4 : Int32).toNatClampNeg) 49 (b0 + 6) (0 : Int32).toNatClampNeg (0 : Int32).toNatClampNeg ((gx_cp (gx_cp (gx_cp (gx_cp (gx_cp σ 44 (b0 + 1) (0 : Int32).toNatClampNeg (0 : Int32).toNatClampNeg (24 : Int32).toNatClampNeg) 45 (b0 + 2) (0 : Int32).toNatClampNeg (0 : Int32).toNatClampNeg (24 : Int32).toNatClampNeg) 46 (b0 + 3) (0 : Int32).toNatClampNeg (0 : Int32).toNatClampNeg (24 : Int32).toNatClampNeg) 47 (b0 + 4) (0 : Int32).toNatClampNeg (0 : Int32).toNatClampNeg (24 : Int32).toNatClampNeg) 48 (b0 + 5) (0 : Int32).toNatClampNeg (0 : Int32).toNatClampNeg (4 : Int32).toNatClampNeg) 43 7).toNatClampNeg) 43 4)) 43 7))))
noncomputable def St_push (σ : gx_R) : Option (Unit × gx_R) :=
  z_bd (Ni_save ((((σ 16 1) + (σ 16 2)) - ((σ 16 1) + (σ 16 2)) / (30 : Int32) * (30 : Int32)) * (104 : Int32)) σ) (fun _ σ2 =>
  if (30 : Int32) ≤ (σ2 16 2) then
    some ((), (gx_up σ2 16 1 (((σ2 16 1) + (1 : Int32)) - ((σ2 16 1) + (1 : Int32)) / (30 : Int32) * (30 : Int32))))
  else
    some ((), (gx_up σ2 16 2 ((σ2 16 2) + (1 : Int32)))))
noncomputable def St_pop (σ : gx_R) : Option (Int32 × gx_R) :=
  if (σ 16 2) = 0 then
    some ((0 : Int32), σ)
  else
    z_bd (Ni_load (((((gx_up σ 16 2 ((σ 16 2) - (1 : Int32))) 16 1) + ((gx_up σ 16 2 ((σ 16 2) - (1 : Int32))) 16 2)) - (((gx_up σ 16 2 ((σ 16 2) - (1 : Int32))) 16 1) + ((gx_up σ 16 2 ((σ 16 2) - (1 : Int32))) 16 2)) / (30 : Int32) * (30 : Int32)) * (104 : Int32)) (gx_up σ 16 2 ((σ 16 2) - (1 : Int32)))) (fun _ σ3 =>
    some ((1 : Int32), σ3))
noncomputable def St_copy (b0 : Nat) (b1 : Nat) (σ : gx_R) : Option (Unit × gx_R) :=
  z_ck (z_cpk (0 : Int32) (0 : Int32) (nI 3120) 3120 3120) (
  some ((), (gx_up (gx_up (gx_cp σ (b1 + 1) (b0 + 1) (0 : Int32).toNatClampNeg (0 : Int32).toNatClampNeg (nI 3120).toNatClampNeg) b0 1 ((gx_cp σ (b1 + 1) (b0 + 1) (0 : Int32).toNatClampNeg (0 : Int32).toNatClampNeg (nI 3120).toNatClampNeg) b1 1)) b0 2 ((gx_up (gx_cp σ (b1 + 1) (b0 + 1) (0 : Int32).toNatClampNeg (0 : Int32).toNatClampNeg (nI 3120).toNatClampNeg) b0 1 ((gx_cp σ (b1 + 1) (b0 + 1) (0 : Int32).toNatClampNeg (0 : Int32).toNatClampNeg (nI 3120).toNatClampNeg) b1 1)) b1 2))))
noncomputable def Va_firstKept (σ : gx_R) : Option (Int32 × gx_R) :=
  some ((if (0 : Int32) < ((σ 9 6) - (60 : Int32)) then ((σ 9 6) - (60 : Int32)) else (0 : Int32)), σ)
noncomputable def Va_copy (b0 : Nat) (b1 : Nat) (σ : gx_R) : Option (Unit × gx_R) :=
  z_bd (Fo_copy (b0 + 1) (b1 + 1) σ) (fun _ σ2 =>
  z_bd (Ni_copy (b0 + 8) (b1 + 8) σ2) (fun _ σ5 =>
  z_bd (St_copy (b0 + 15) (b1 + 15) σ5) (fun _ σ8 =>
  z_ck (z_cpk (0 : Int32) (0 : Int32) (nI 999) 999 999) (
  some ((), (gx_up (gx_up (gx_cp σ8 (b1 + 17) (b0 + 17) (0 : Int32).toNatClampNeg (0 : Int32).toNatClampNeg (nI 999).toNatClampNeg) b0 4 ((gx_cp σ8 (b1 + 17) (b0 + 17) (0 : Int32).toNatClampNeg (0 : Int32).toNatClampNeg (nI 999).toNatClampNeg) b1 4)) b0 5 ((gx_up (gx_cp σ8 (b1 + 17) (b0 + 17) (0 : Int32).toNatClampNeg (0 : Int32).toNatClampNeg (nI 999).toNatClampNeg) b0 4 ((gx_cp σ8 (b1 + 17) (b0 + 17) (0 : Int32).toNatClampNeg (0 : Int32).toNatClampNeg (nI 999).toNatClampNeg) b1 4)) b1 5)))))))
noncomputable def La_isLaw (a1 : Int32) (σ : gx_R) : Option (Int32 × gx_R) :=
  if (σ 1 5) < 0 then
    some ((0 : Int32), σ)
  else
    if (nI 4) ≤ (σ 1 5) then
      some ((0 : Int32), σ)
    else
      z_ck (z_ix (σ 1 5) 4) (
      z_ck (z_ix a1 4) (
      if (σ ((81 + 7 * (σ 1 5).toNatClampNeg) + 5) a1.toNatClampNeg) = (-1 : Int32) then
        some ((0 : Int32), σ)
      else
        some ((1 : Int32), σ)))
noncomputable def La_joined_39 (K93 : Int64 → gx_R → Option (Int32 × gx_R)) (s0 : Int64) (σ : gx_R) : Option (Int32 × gx_R) :=
  K93 s0 σ
noncomputable def La_joined_47 (K93 : Int64 → gx_R → Option (Int32 × gx_R)) (s0 : Int64) (σ : gx_R) : Option (Int32 × gx_R) :=
  K93 s0 σ
noncomputable def La_joined_55 (K93 : Int64 → gx_R → Option (Int32 × gx_R)) (s0 : Int64) (σ : gx_R) : Option (Int32 × gx_R) :=
  K93 s0 σ
noncomputable def La_joined_63 (K93 : Int64 → gx_R → Option (Int32 × gx_R)) (s0 : Int64) (σ : gx_R) : Option (Int32 × gx_R) :=
  K93 s0 σ
noncomputable def La_joined_71 (K93 : Int64 → gx_R → Option (Int32 × gx_R)) (s0 : Int64) (σ : gx_R) : Option (Int32 × gx_R) :=
  K93 s0 σ
noncomputable def La_joined_79 (K93 : Int64 → gx_R → Option (Int32 × gx_R)) (s0 : Int64) (σ : gx_R) : Option (Int32 × gx_R) :=
  K93 s0 σ
noncomputable def La_joined_31 (K93 : Int64 → gx_R → Option (Int32 × gx_R)) (s0 : Int64) (σ : gx_R) : Option (Int32 × gx_R) :=
  K93 s0 σ
noncomputable def La_joined_93 (l3 : Int64) (σ : gx_R) : Option (Int32 × gx_R) :=
  if (lg_cmp l3 (1000000 : Int64)) ≤ 0 then
    if 0 ≤ (lg_cmp l3 (-1000000 : Int64)) then
      some (l3.toInt32, σ)
    else
      some ((-1000000 : Int32), σ)
  else
    some ((1000000 : Int32), σ)
noncomputable def La_joined (a0 : Int32) (a1 : Int32) (a2 : Int32) (σ : gx_R) : Option (Int32 × gx_R) :=
  if a0 = (18 : Int32) then
    La_joined_93 ((a1 ||| a2).toInt64) σ
  else
  if a0 = (19 : Int32) then
    La_joined_93 ((a1 &&& a2).toInt64) σ
  else
  if a0 = (31 : Int32) then
    if a2 ≤ a1 then
      La_joined_39 (La_joined_93) (0 : Int64) σ
    else
      La_joined_39 (La_joined_93) (1 : Int64) σ
  else
  if a0 = (32 : Int32) then
    if a2 < a1 then
      La_joined_47 (La_joined_93) (0 : Int64) σ
    else
      La_joined_47 (La_joined_93) (1 : Int64) σ
  else
  if a0 = (33 : Int32) then
    if a1 ≤ a2 then
      La_joined_55 (La_joined_93) (0 : Int64) σ
    else
      La_joined_55 (La_joined_93) (1 : Int64) σ
  else
  if a0 = (34 : Int32) then
    if a1 < a2 then
      La_joined_63 (La_joined_93) (0 : Int64) σ
    else
      La_joined_63 (La_joined_93) (1 : Int64) σ
  else
  if a0 = (35 : Int32) then
    if a1 = a2 then
      La_joined_71 (La_joined_93) (1 : Int64) σ
    else
      La_joined_71 (La_joined_93) (0 : Int64) σ
  else
  if a0 = (36 : Int32) then
    if a1 = a2 then
      La_joined_79 (La_joined_93) (0 : Int64) σ
    else
      La_joined_79 (La_joined_93) (1 : Int64) σ
  else
  if a0 = (37 : Int32) then
    La_joined_93 ((a1 + a2).toInt64) σ
  else
  if a0 = (38 : Int32) then
    La_joined_93 ((a1 - a2).toInt64) σ
  else
  if a0 = (39 : Int32) then
    La_joined_93 (a1.toInt64 * a2.toInt64) σ
  else
  if a0 = (40 : Int32) then
    if a2 = 0 then
      La_joined_31 (La_joined_93) (0 : Int64) σ
    else
      z_ck (z_nzi a2) (
      La_joined_31 (La_joined_93) ((a1 / a2).toInt64) σ)
  else
    La_joined_93 (0 : Int64) σ
noncomputable def La_valueOf_98 (K161 : Int32 → Nat → Int32 → Int32 → Int32 → gx_R → Option (Int32 × gx_R)) (a2 : Int32) (b3 : Nat) (a5 : Int32) (a6 : Int32) (s0 : Int32) (σ : gx_R) : Option (Int32 × gx_R) :=
  K161 a2 b3 s0 a5 a6 σ
noncomputable def La_valueOf_139 (K161 : Int32 → Nat → Int32 → Int32 → Int32 → gx_R → Option (Int32 × gx_R)) (a2 : Int32) (b3 : Nat) (a4 : Int32) (a5 : Int32) (a6 : Int32) (a8 : Int32) (σ : gx_R) : Option (Int32 × gx_R) :=
  if a5 ≤ (1 : Int32) then
    K161 a2 b3 a4 a5 a6 σ
  else
    z_ck (z_ix ((a5 + (-1)) - (1 : Int32)) 64) (
    z_ck (z_ix (a5 + (-1)) 64) (
    z_bd (La_joined a8 (σ 52 (((a5 + (-1)) - (1 : Int32)).toNatClampNeg)) (σ 52 ((a5 + (-1)).toNatClampNeg)) σ) (fun r32 σ33 =>
    z_ck (z_ix ((a5 + (-1)) - (1 : Int32)) 64) (
    K161 a2 b3 a4 (a5 + (-1)) a6 (gx_up σ33 52 ((a5 + (-1)) - (1 : Int32)).toNatClampNeg r32)))))
noncomputable def La_valueOf_119 (K161 : Int32 → Nat → Int32 → Int32 → Int32 → gx_R → Option (Int32 × gx_R)) (a2 : Int32) (b3 : Nat) (a4 : Int32) (a5 : Int32) (a6 : Int32) (a8 : Int32) (σ : gx_R) : Option (Int32 × gx_R) :=
  if a8 = (20 : Int32) then
    if a5 ≤ 0 then
      La_valueOf_139 K161 a2 b3 a4 a5 a6 a8 σ
    else
      z_ck (z_ix (a5 - (1 : Int32)) 64) (
      z_ck (z_ix (a5 - (1 : Int32)) 64) (
      K161 a2 b3 a4 a5 a6 (gx_up σ 52 (a5 - (1 : Int32)).toNatClampNeg ((1 : Int32) - (σ 52 ((a5 - (1 : Int32)).toNatClampNeg))))))
  else
    La_valueOf_139 K161 a2 b3 a4 a5 a6 a8 σ
noncomputable def La_valueOf_71 (K161 : Int32 → Nat → Int32 → Int32 → Int32 → gx_R → Option (Int32 × gx_R)) (a2 : Int32) (b3 : Nat) (a4 : Int32) (a5 : Int32) (a6 : Int32) (s1 : Int32) (s2 : Int32) (σ : gx_R) : Option (Int32 × gx_R) :=
  z_ck (z_ix s1 64) (
  K161 a2 b3 a4 (a5 + 1) a6 (gx_up σ 52 s1.toNatClampNeg s2))
noncomputable def La_valueOf_100 (K161 : Int32 → Nat → Int32 → Int32 → Int32 → gx_R → Option (Int32 × gx_R)) (a2 : Int32) (b3 : Nat) (a4 : Int32) (a5 : Int32) (a6 : Int32) (a8 : Int32) (σ : gx_R) : Option (Int32 × gx_R) :=
  if a8 = (46 : Int32) then
    if a5 ≤ 0 then
      La_valueOf_119 K161 a2 b3 a4 a5 a6 a8 σ
    else
      z_ck (z_ix (a5 - (1 : Int32)) 64) (
      z_ck (z_ix (a5 - (1 : Int32)) 64) (
      K161 a2 b3 a4 a5 a6 (gx_up σ 52 (a5 - (1 : Int32)).toNatClampNeg (-(σ 52 ((a5 - (1 : Int32)).toNatClampNeg))))))
  else
    La_valueOf_119 K161 a2 b3 a4 a5 a6 a8 σ
noncomputable def La_valueOf_74 (K161 : Int32 → Nat → Int32 → Int32 → Int32 → gx_R → Option (Int32 × gx_R)) (a2 : Int32) (b3 : Nat) (a4 : Int32) (a5 : Int32) (a6 : Int32) (a7 : Int32) (a8 : Int32) (σ : gx_R) : Option (Int32 × gx_R) :=
  if a8 = (16 : Int32) then
    K161 a2 b3 (a7 >>> ((6 : Int32) &&& 31)) a5 a6 σ
  else
    if a8 = (15 : Int32) then
      if a5 ≤ 0 then
        La_valueOf_100 K161 a2 b3 a4 a5 a6 a8 σ
      else
        z_ck (z_ix (a5 + (-1)) 64) (
        if (σ 52 ((a5 + (-1)).toNatClampNeg)) = 0 then
          La_valueOf_98 K161 a2 b3 (a5 + (-1)) a6 (a7 >>> ((6 : Int32) &&& 31)) σ
        else
          La_valueOf_98 K161 a2 b3 (a5 + (-1)) a6 a4 σ)
    else
      La_valueOf_100 K161 a2 b3 a4 a5 a6 a8 σ
noncomputable def La_valueOf_50 (K161 : Int32 → Nat → Int32 → Int32 → Int32 → gx_R → Option (Int32 × gx_R)) (a2 : Int32) (b3 : Nat) (a4 : Int32) (a5 : Int32) (a6 : Int32) (a7 : Int32) (a8 : Int32) (σ : gx_R) : Option (Int32 × gx_R) :=
  if (nI 64) ≤ a5 then
    K161 a2 b3 a4 a5 a6 σ
  else
    if a8 = (30 : Int32) then
      La_valueOf_71 K161 a2 b3 a4 a5 a6 a5 (a7 >>> ((6 : Int32) &&& 31)) σ
    else
      z_ck (z_ix (a8 - (21 : Int32)) 9) (
      La_valueOf_71 K161 a2 b3 a4 a5 a6 a5 (σ 51 ((a8 - (21 : Int32)).toNatClampNeg)) σ)
noncomputable def La_valueOf_161 (K16 : Int32 → Nat → Int32 → Int32 → Int32 → gx_R → Option (Int32 × gx_R)) (a2 : Int32) (b3 : Nat) (a4 : Int32) (a5 : Int32) (a6 : Int32) (σ : gx_R) : Option (Int32 × gx_R) :=
  K16 a2 b3 a4 a5 (a6 + 1) σ
noncomputable def La_valueOf_163 (a2 : Int32) (a5 : Int32) (σ : gx_R) : Option (Int32 × gx_R) :=
  if a5 ≤ 0 then
    some ((0 : Int32), σ)
  else
    z_ck (z_ix (a5 - (1 : Int32)) 64) (
    some ((if (0 : Int32) < (if (σ 52 ((a5 - (1 : Int32)).toNatClampNeg)) < a2 then (σ 52 ((a5 - (1 : Int32)).toNatClampNeg)) else a2) then (if (σ 52 ((a5 - (1 : Int32)).toNatClampNeg)) < a2 then (σ 52 ((a5 - (1 : Int32)).toNatClampNeg)) else a2) else (0 : Int32)), σ))
noncomputable def La_valueOf_16_B (K16 : Int32 → Nat → Int32 → Int32 → Int32 → gx_R → Option (Int32 × gx_R)) (a2 : Int32) (b3 : Nat) (a4 : Int32) (a5 : Int32) (a6 : Int32) (σ : gx_R) : Option (Int32 × gx_R) :=
  if (300 : Int32) ≤ a6 then
    La_valueOf_163 a2 a5 σ
  else
    if a4 < 0 then
      La_valueOf_163 a2 a5 σ
    else
      if (σ b3 7) ≤ a4 then
        La_valueOf_163 a2 a5 σ
      else
        z_ck (z_ix a4 300) (
        if (σ (b3 + 6) a4.toNatClampNeg) = (43 : Int32) then
          La_valueOf_163 a2 a5 σ
        else
          z_ck (z_ix a4 300) (
          if ((σ (b3 + 6) a4.toNatClampNeg) &&& (63 : Int32)) = (30 : Int32) then
            La_valueOf_50 (La_valueOf_161 K16) a2 b3 (a4 + 1) a5 a6 (σ (b3 + 6) a4.toNatClampNeg) ((σ (b3 + 6) a4.toNatClampNeg) &&& (63 : Int32)) σ
          else
            if ((σ (b3 + 6) a4.toNatClampNeg) &&& (63 : Int32)) < (21 : Int32) then
              La_valueOf_74 (La_valueOf_161 K16) a2 b3 (a4 + 1) a5 a6 (σ (b3 + 6) a4.toNatClampNeg) ((σ (b3 + 6) a4.toNatClampNeg) &&& (63 : Int32)) σ
            else
              if (30 : Int32) ≤ ((σ (b3 + 6) a4.toNatClampNeg) &&& (63 : Int32)) then
                La_valueOf_74 (La_valueOf_161 K16) a2 b3 (a4 + 1) a5 a6 (σ (b3 + 6) a4.toNatClampNeg) ((σ (b3 + 6) a4.toNatClampNeg) &&& (63 : Int32)) σ
              else
                La_valueOf_50 (La_valueOf_161 K16) a2 b3 (a4 + 1) a5 a6 (σ (b3 + 6) a4.toNatClampNeg) ((σ (b3 + 6) a4.toNatClampNeg) &&& (63 : Int32)) σ))
noncomputable def La_valueOf_16 : Nat → Int32 → Nat → Int32 → Int32 → Int32 → gx_R → Option (Int32 × gx_R)
  | 0, _, _, _, _, _, _ => none
  | n + 1, a2, b3, a4, a5, a6, σ => La_valueOf_16_B (La_valueOf_16 n) a2 b3 a4 a5 a6 σ
noncomputable def La_valueOf (a1 : Int32) (a2 : Int32) (σ : gx_R) : Option (Int32 × gx_R) :=
  z_ck (z_ix (σ 1 5) 4) (
  z_ck (z_ix a1 4) (
  La_valueOf_16 z_FU a2 (81 + 7 * (σ 1 5).toNatClampNeg) (σ ((81 + 7 * (σ 1 5).toNatClampNeg) + 5) a1.toNatClampNeg) (0 : Int32) (0 : Int32) σ))
noncomputable def La_worthOf (a1 : Int32) (a2 : Int32) (a3 : Int32) (a4 : Int32) (a5 : Int32) (σ : gx_R) : Option (Int32 × gx_R) :=
  z_bd (La_isLaw (0 : Int32) σ) (fun r1 σ2 =>
  if r1 = 0 then
    some ((10 : Int32), σ2)
  else
    z_ck (z_ix a1 8) (
    z_bd (La_valueOf (0 : Int32) (99 : Int32) (gx_up (gx_up (gx_up (gx_up (gx_up (gx_up σ2 51 (0 : Int32).toNatClampNeg a1) 51 (1 : Int32).toNatClampNeg a5) 51 (2 : Int32).toNatClampNeg a3) 51 (3 : Int32).toNatClampNeg ((gx_up (gx_up (gx_up σ2 51 (0 : Int32).toNatClampNeg a1) 51 (1 : Int32).toNatClampNeg a5) 51 (2 : Int32).toNatClampNeg a3) 3 a1.toNatClampNeg)) 51 (4 : Int32).toNatClampNeg a4) 51 (5 : Int32).toNatClampNeg a2)) (fun r6 σ7 =>
    some (r6, σ7))))
noncomputable def La_burnOf_43 (s1 : Int32) (s2 : Int32) (σ : gx_R) : Option (Int32 × gx_R) :=
  z_ck (z_ix s1 9) (
  z_bd (La_valueOf (1 : Int32) (99 : Int32) (gx_up σ 51 s1.toNatClampNeg s2)) (fun r11 σ12 =>
  some (r11, σ12)))
noncomputable def La_burnOf (a1 : Int32) (a2 : Int32) (a3 : Int32) (a4 : Int32) (σ : gx_R) : Option (Int32 × gx_R) :=
  z_bd (La_isLaw (1 : Int32) σ) (fun r1 σ2 =>
  if r1 = 0 then
    some ((10 : Int32), σ2)
  else
    z_bd (Fo_isWork a2 (gx_up (gx_up (gx_up (gx_up σ2 51 (0 : Int32).toNatClampNeg a1) 51 (1 : Int32).toNatClampNeg a4) 51 (2 : Int32).toNatClampNeg a3) 51 (6 : Int32).toNatClampNeg a2)) (fun r5 σ6 =>
    if r5 = 0 then
      La_burnOf_43 (7 : Int32) (0 : Int32) σ6
    else
      z_ck (z_ix a2 6) (
      La_burnOf_43 (7 : Int32) (σ6 8 a2.toNatClampNeg) σ6)))
noncomputable def La_soundOf (a1 : Int32) (a2 : Int32) (a3 : Int32) (σ : gx_R) : Option (Int32 × gx_R) :=
  z_bd (La_isLaw (2 : Int32) σ) (fun r1 σ2 =>
  if r1 = 0 then
    z_ck (z_ix a1 8) (
    some ((σ2 3 a1.toNatClampNeg), σ2))
  else
    z_ck (z_ix a1 8) (
    z_bd (La_valueOf (2 : Int32) (99 : Int32) (gx_up (gx_up (gx_up (gx_up σ2 51 (0 : Int32).toNatClampNeg a1) 51 (1 : Int32).toNatClampNeg a3) 51 (2 : Int32).toNatClampNeg a2) 51 (3 : Int32).toNatClampNeg ((gx_up (gx_up (gx_up σ2 51 (0 : Int32).toNatClampNeg a1) 51 (1 : Int32).toNatClampNeg a3) 51 (2 : Int32).toNatClampNeg a2) 3 a1.toNatClampNeg))) (fun r7 σ8 =>
    some (r7, σ8))))
noncomputable def La_priceOf (a1 : Int32) (a2 : Int32) (a3 : Int32) (σ : gx_R) : Option (Int32 × gx_R) :=
  z_bd (La_isLaw (3 : Int32) σ) (fun r1 σ2 =>
  if r1 = 0 then
    some ((1 : Int32), σ2)
  else
    z_ck (z_ix a1 8) (
    z_bd (La_valueOf (3 : Int32) (999 : Int32) (gx_up (gx_up (gx_up (gx_up σ2 51 (0 : Int32).toNatClampNeg a1) 51 (1 : Int32).toNatClampNeg a3) 51 (3 : Int32).toNatClampNeg ((gx_up (gx_up σ2 51 (0 : Int32).toNatClampNeg a1) 51 (1 : Int32).toNatClampNeg a3) 3 a1.toNatClampNeg)) 51 (8 : Int32).toNatClampNeg a2)) (fun r6 σ7 =>
    some (r6, σ7))))
noncomputable def La_worthNow (a2 : Int32) (a3 : Int32) (σ : gx_R) : Option (Int32 × gx_R) :=
  z_ck (z_ix a2 8) (
  z_ck (z_ix a2 8) (
  z_bd (La_worthOf a2 (σ 11 a2.toNatClampNeg) (σ 12 a2.toNatClampNeg) a3 (σ 9 6) σ) (fun r3 σ4 =>
  some (r3, σ4))))
noncomputable def La_burnNow (b1 : Nat) (a2 : Int32) (σ : gx_R) : Option (Int32 × gx_R) :=
  z_ck (z_ix a2 8) (
  z_ck (z_ix a2 8) (
  z_bd (La_burnOf a2 (σ (b1 + 2) a2.toNatClampNeg) (σ (b1 + 3) a2.toNatClampNeg) (σ b1 6) σ) (fun r3 σ4 =>
  some (r3, σ4))))
noncomputable def La_fuelNow_29 (K4 : Nat → Int32 → Int32 → Int32 → gx_R → Option (Int32 × gx_R)) (b1 : Nat) (a2 : Int32) (a3 : Int32) (a4 : Int32) (σ : gx_R) : Option (Int32 × gx_R) :=
  K4 b1 a2 a3 (a4 + 1) σ
noncomputable def La_fuelNow_4_B (K4 : Nat → Int32 → Int32 → Int32 → gx_R → Option (Int32 × gx_R)) (b1 : Nat) (a2 : Int32) (a3 : Int32) (a4 : Int32) (σ : gx_R) : Option (Int32 × gx_R) :=
  if (8 : Int32) ≤ a4 then
    some (a3, σ)
  else
    z_bd (Ni_sleepsFor b1 a4 a2 σ) (fun r2 σ3 =>
    if r2 = 0 then
      La_fuelNow_29 K4 b1 a2 a3 a4 σ3
    else
      z_ck (z_ix a4 8) (
      z_ck (z_ix a4 8) (
      z_bd (La_worthOf a4 a2 (σ3 (b1 + 3) a4.toNatClampNeg) (σ3 (b1 + 4) a4.toNatClampNeg) (σ3 b1 6) σ3) (fun r8 σ9 =>
      La_fuelNow_29 K4 b1 a2 (a3 + r8) a4 σ9))))
noncomputable def La_fuelNow_4 : Nat → Nat → Int32 → Int32 → Int32 → gx_R → Option (Int32 × gx_R)
  | 0, _, _, _, _, _ => none
  | n + 1, b1, a2, a3, a4, σ => La_fuelNow_4_B (La_fuelNow_4 n) b1 a2 a3 a4 σ
noncomputable def La_fuelNow (b1 : Nat) (a2 : Int32) (σ : gx_R) : Option (Int32 × gx_R) :=
  La_fuelNow_4 z_FU b1 a2 (0 : Int32) (0 : Int32) σ
noncomputable def Cl_goForward_54 (K28 : Nat → Int32 → Int32 → gx_R → Option (Unit × gx_R)) (b1 : Nat) (a2 : Int32) (a4 : Int32) (σ : gx_R) : Option (Unit × gx_R) :=
  K28 b1 a2 (a4 + 1) σ
noncomputable def Cl_goForward_28_B (K28 : Nat → Int32 → Int32 → gx_R → Option (Unit × gx_R)) (b1 : Nat) (a2 : Int32) (a4 : Int32) (σ : gx_R) : Option (Unit × gx_R) :=
  if (8 : Int32) ≤ a4 then
    some ((), σ)
  else
    z_bd (Ni_sleepsFor b1 a4 a2 σ) (fun r10 σ11 =>
    if r10 = 0 then
      Cl_goForward_54 K28 b1 a2 a4 σ11
    else
      z_ck (z_ix ((a2 * (8 : Int32)) + a4) 64) (
      z_ck (z_ix ((a2 * (8 : Int32)) + a4) 64) (
      Cl_goForward_54 K28 b1 a2 a4 (gx_up σ11 (b1 + 5) ((a2 * (8 : Int32)) + a4).toNatClampNeg (if ((σ11 (b1 + 5) (((a2 * (8 : Int32)) + a4).toNatClampNeg)) + (1 : Int32)) < (99 : Int32) then ((σ11 (b1 + 5) (((a2 * (8 : Int32)) + a4).toNatClampNeg)) + (1 : Int32)) else (99 : Int32))))))
noncomputable def Cl_goForward_28 : Nat → Nat → Int32 → Int32 → gx_R → Option (Unit × gx_R)
  | 0, _, _, _, _ => none
  | n + 1, b1, a2, a4, σ => Cl_goForward_28_B (Cl_goForward_28 n) b1 a2 a4 σ
noncomputable def Cl_goForward_26 (b1 : Nat) (a2 : Int32) (σ : gx_R) : Option (Unit × gx_R) :=
  Cl_goForward_28 z_FU b1 a2 (0 : Int32) σ
noncomputable def Cl_goForward (b1 : Nat) (a2 : Int32) (σ : gx_R) : Option (Unit × gx_R) :=
  z_ck (z_ix a2 8) (
  z_bd (Fo_isWork (σ (b1 + 2) a2.toNatClampNeg) σ) (fun r2 σ3 =>
  if r2 = 0 then
    Cl_goForward_26 b1 a2 σ3
  else
    z_ck (z_ix (σ (b1 + 2) a2.toNatClampNeg) 6) (
    z_ck (z_ix (σ (b1 + 2) a2.toNatClampNeg) 6) (
    z_ck (z_ix (σ (b1 + 2) a2.toNatClampNeg) 6) (
    Cl_goForward_26 b1 a2 (gx_up σ3 (b1 + 6) (σ (b1 + 2) a2.toNatClampNeg).toNatClampNeg (if ((σ3 (b1 + 6) ((σ (b1 + 2) a2.toNatClampNeg).toNatClampNeg)) + (1 : Int32)) < (σ3 7 ((σ (b1 + 2) a2.toNatClampNeg).toNatClampNeg)) then ((σ3 (b1 + 6) ((σ (b1 + 2) a2.toNatClampNeg).toNatClampNeg)) + (1 : Int32)) else (σ3 7 ((σ (b1 + 2) a2.toNatClampNeg).toNatClampNeg)))))))))
noncomputable def Cl_listen_67 (K33 : Nat → Int32 → Int32 → gx_R → Option (Unit × gx_R)) (b1 : Nat) (a2 : Int32) (a3 : Int32) (σ : gx_R) : Option (Unit × gx_R) :=
  K33 b1 a2 (a3 + 1) σ
noncomputable def Cl_listen_33_B (K69 : Nat → Int32 → gx_R → Option (Unit × gx_R)) (K33 : Nat → Int32 → Int32 → gx_R → Option (Unit × gx_R)) (b1 : Nat) (a2 : Int32) (a3 : Int32) (σ : gx_R) : Option (Unit × gx_R) :=
  if (8 : Int32) ≤ a3 then
    K69 b1 a2 σ
  else
    z_ck (z_ix a2 8) (
    if (((σ 6 a2.toNatClampNeg) >>> (a3 &&& 31)) &&& (1 : Int32)) = (1 : Int32) then
      z_ck (z_ix a3 8) (
      z_ck (z_ix a2 8) (
      if (σ 4 a3.toNatClampNeg) ≤ (σ 54 a2.toNatClampNeg) then
        Cl_listen_67 K33 b1 a2 a3 σ
      else
        z_ck (z_ix a2 8) (
        z_ck (z_ix a2 8) (
        Cl_listen_67 K33 b1 a2 a3 (gx_up σ 55 a2.toNatClampNeg ((σ 55 a2.toNatClampNeg) ||| ((1 : Int32) <<< (a3 &&& 31))))))))
    else
      Cl_listen_67 K33 b1 a2 a3 σ)
noncomputable def Cl_listen_33 (K69 : Nat → Int32 → gx_R → Option (Unit × gx_R)) : Nat → Nat → Int32 → Int32 → gx_R → Option (Unit × gx_R)
  | 0, _, _, _, _ => none
  | n + 1, b1, a2, a3, σ => Cl_listen_33_B K69 (Cl_listen_33 K69 n) b1 a2 a3 σ
noncomputable def Cl_listen_69 (K2 : Nat → Int32 → gx_R → Option (Unit × gx_R)) (b1 : Nat) (a2 : Int32) (σ : gx_R) : Option (Unit × gx_R) :=
  K2 b1 (a2 + 1) σ
noncomputable def Cl_listen_2_B (K2 : Nat → Int32 → gx_R → Option (Unit × gx_R)) (b1 : Nat) (a2 : Int32) (σ : gx_R) : Option (Unit × gx_R) :=
  if (8 : Int32) ≤ a2 then
    some ((), σ)
  else
    z_ck (z_ix a2 8) (
    if (σ (b1 + 1) a2.toNatClampNeg) = (2 : Int32) then
      z_ck (z_ix a2 8) (
      z_bd (La_soundOf a2 (σ (b1 + 3) a2.toNatClampNeg) (σ b1 6) σ) (fun r5 σ6 =>
      z_ck (z_ix a2 8) (
      z_ck (z_ix a2 8) (
      Cl_listen_33 (Cl_listen_69 K2) z_FU b1 a2 (0 : Int32) (gx_up (gx_up σ6 54 a2.toNatClampNeg r5) 55 a2.toNatClampNeg (0 : Int32))))))
    else
      Cl_listen_69 K2 b1 a2 σ)
noncomputable def Cl_listen_2 : Nat → Nat → Int32 → gx_R → Option (Unit × gx_R)
  | 0, _, _, _ => none
  | n + 1, b1, a2, σ => Cl_listen_2_B (Cl_listen_2 n) b1 a2 σ
noncomputable def Cl_listen (b1 : Nat) (σ : gx_R) : Option (Unit × gx_R) :=
  Cl_listen_2 z_FU b1 (0 : Int32) σ
noncomputable def Cl_isNoiseAbove_31 (K2 : Nat → Int32 → Int32 → Int32 → gx_R → Option (Int32 × gx_R)) (b1 : Nat) (a2 : Int32) (a3 : Int32) (a4 : Int32) (σ : gx_R) : Option (Int32 × gx_R) :=
  K2 b1 a2 a3 (a4 + 1) σ
noncomputable def Cl_isNoiseAbove_2_B (K2 : Nat → Int32 → Int32 → Int32 → gx_R → Option (Int32 × gx_R)) (b1 : Nat) (a2 : Int32) (a3 : Int32) (a4 : Int32) (σ : gx_R) : Option (Int32 × gx_R) :=
  if (8 : Int32) ≤ a4 then
    some ((0 : Int32), σ)
  else
    z_ck (z_ix a4 8) (
    if ((a2 >>> (a4 &&& 31)) &&& (1 : Int32)) = (1 : Int32) then
      z_bd (Fo_isWork (σ (b1 + 2) a4.toNatClampNeg) σ) (fun r4 σ5 =>
      if r4 = 0 then
        Cl_isNoiseAbove_31 K2 b1 a2 a3 a4 σ5
      else
        z_ck (z_ix (σ (b1 + 2) a4.toNatClampNeg) 6) (
        if (σ5 8 ((σ (b1 + 2) a4.toNatClampNeg).toNatClampNeg)) ≤ a3 then
          Cl_isNoiseAbove_31 K2 b1 a2 a3 a4 σ5
        else
          some ((1 : Int32), σ5)))
    else
      Cl_isNoiseAbove_31 K2 b1 a2 a3 a4 σ)
noncomputable def Cl_isNoiseAbove_2 : Nat → Nat → Int32 → Int32 → Int32 → gx_R → Option (Int32 × gx_R)
  | 0, _, _, _, _, _ => none
  | n + 1, b1, a2, a3, a4, σ => Cl_isNoiseAbove_2_B (Cl_isNoiseAbove_2 n) b1 a2 a3 a4 σ
noncomputable def Cl_isNoiseAbove (b1 : Nat) (a2 : Int32) (a3 : Int32) (σ : gx_R) : Option (Int32 × gx_R) :=
  Cl_isNoiseAbove_2 z_FU b1 a2 a3 (0 : Int32) σ
noncomputable def Cl_wokenByNoise_35 (K4 : Nat → Int32 → Int32 → gx_R → Option (Int32 × gx_R)) (b1 : Nat) (a2 : Int32) (a3 : Int32) (σ : gx_R) : Option (Int32 × gx_R) :=
  K4 b1 a2 (a3 + 1) σ
noncomputable def Cl_wokenByNoise_4_B (K4 : Nat → Int32 → Int32 → gx_R → Option (Int32 × gx_R)) (b1 : Nat) (a2 : Int32) (a3 : Int32) (σ : gx_R) : Option (Int32 × gx_R) :=
  if (8 : Int32) ≤ a3 then
    some (a2, σ)
  else
    z_ck (z_ix a3 8) (
    if (σ (b1 + 1) a3.toNatClampNeg) = (2 : Int32) then
      z_ck (z_ix a3 8) (
      z_ck (z_ix a3 8) (
      z_bd (Cl_isNoiseAbove b1 ((σ 6 a3.toNatClampNeg) &&& (σ 53 4)) (σ 54 a3.toNatClampNeg) σ) (fun r6 σ7 =>
      if r6 = 0 then
        Cl_wokenByNoise_35 K4 b1 a2 a3 σ7
      else
        Cl_wokenByNoise_35 K4 b1 (a2 ||| ((1 : Int32) <<< (a3 &&& 31))) a3 σ7)))
    else
      Cl_wokenByNoise_35 K4 b1 a2 a3 σ)
noncomputable def Cl_wokenByNoise_4 : Nat → Nat → Int32 → Int32 → gx_R → Option (Int32 × gx_R)
  | 0, _, _, _, _ => none
  | n + 1, b1, a2, a3, σ => Cl_wokenByNoise_4_B (Cl_wokenByNoise_4 n) b1 a2 a3 σ
noncomputable def Cl_wokenByNoise (b1 : Nat) (σ : gx_R) : Option (Int32 × gx_R) :=
  Cl_wokenByNoise_4 z_FU b1 (0 : Int32) (0 : Int32) σ
noncomputable def Cl_spread_39 (K16 : Int32 → Int32 → Int32 → Int32 → Int32 → gx_R → Option (Int32 × gx_R)) (a2 : Int32) (a3 : Int32) (a4 : Int32) (a5 : Int32) (a6 : Int32) (σ : gx_R) : Option (Int32 × gx_R) :=
  K16 a2 a3 a4 a5 (a6 + 1) σ
noncomputable def Cl_spread_41 (K6 : Int32 → Int32 → Int32 → Int32 → gx_R → Option (Int32 × gx_R)) (a2 : Int32) (a3 : Int32) (a4 : Int32) (a5 : Int32) (σ : gx_R) : Option (Int32 × gx_R) :=
  K6 a2 a3 a4 (a5 + 1) σ
noncomputable def Cl_spread_16_B (K6 : Int32 → Int32 → Int32 → Int32 → gx_R → Option (Int32 × gx_R)) (K16 : Int32 → Int32 → Int32 → Int32 → Int32 → gx_R → Option (Int32 × gx_R)) (a2 : Int32) (a3 : Int32) (a4 : Int32) (a5 : Int32) (a6 : Int32) (σ : gx_R) : Option (Int32 × gx_R) :=
  if (8 : Int32) ≤ a6 then
    Cl_spread_41 K6 a2 a3 a4 a5 σ
  else
    if ((a2 >>> (a6 &&& 31)) &&& (1 : Int32)) = (1 : Int32) then
      z_ck (z_ix a6 8) (
      if ((σ 55 a6.toNatClampNeg) &&& a3) = 0 then
        Cl_spread_39 K16 a2 a3 a4 a5 a6 σ
      else
        Cl_spread_39 K16 a2 (a3 ||| ((1 : Int32) <<< (a6 &&& 31))) a4 a5 a6 σ)
    else
      Cl_spread_39 K16 a2 a3 a4 a5 a6 σ
noncomputable def Cl_spread_16 (K6 : Int32 → Int32 → Int32 → Int32 → gx_R → Option (Int32 × gx_R)) : Nat → Int32 → Int32 → Int32 → Int32 → Int32 → gx_R → Option (Int32 × gx_R)
  | 0, _, _, _, _, _, _ => none
  | n + 1, a2, a3, a4, a5, a6, σ => Cl_spread_16_B K6 (Cl_spread_16 K6 n) a2 a3 a4 a5 a6 σ
noncomputable def Cl_spread_6_B (K6 : Int32 → Int32 → Int32 → Int32 → gx_R → Option (Int32 × gx_R)) (a2 : Int32) (a3 : Int32) (a4 : Int32) (a5 : Int32) (σ : gx_R) : Option (Int32 × gx_R) :=
  if (8 : Int32) ≤ a5 then
    some (a3, σ)
  else
    if a3 = a4 then
      some (a3, σ)
    else
      Cl_spread_16 K6 z_FU a2 a3 a3 a5 (0 : Int32) σ
noncomputable def Cl_spread_6 : Nat → Int32 → Int32 → Int32 → Int32 → gx_R → Option (Int32 × gx_R)
  | 0, _, _, _, _, _ => none
  | n + 1, a2, a3, a4, a5, σ => Cl_spread_6_B (Cl_spread_6 n) a2 a3 a4 a5 σ
noncomputable def Cl_spread (a1 : Int32) (a2 : Int32) (σ : gx_R) : Option (Int32 × gx_R) :=
  Cl_spread_6 z_FU a2 a1 (0 : Int32) (0 : Int32) σ
