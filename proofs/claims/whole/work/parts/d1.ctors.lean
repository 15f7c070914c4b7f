/-! ===== the constructors (written by gen_ctor.py) ===== -/
theorem va_one (h : Nat) (e : va_E) : va_D (fun _ => True) [(h, e)] := ⟨fun i j p q hi hj _ => by
  have h1 : i < 1 := (List.getElem?_eq_some_iff.mp hi).1
  have h2 : j < 1 := (List.getElem?_eq_some_iff.mp hj).1
  omega, fun _ _ _ => trivial⟩
/-- Folk: its cells when it is made -/
def cw_Folk (G : Nat → ClassId) (u : Nat → Nat) : va_W := (u 0, .inr (1, [.int 0, .int 0, .ref (u 1), .ref (u 2), .ref (u 3), .ref (u 4), .ref (u 5), .ref (u 6)])) :: (((((([] ++ [((u 1), .inl (G 0, 8, .inl (fun _ => 0)))]) ++ [((u 2), .inl (G 0, 8, .inl (fun _ => 0)))]) ++ [((u 3), .inl (G 0, 8, .inl (fun _ => 0)))]) ++ [((u 4), .inl (G 0, 8, .inl (fun _ => 0)))]) ++ [((u 5), .inl (G 0, 6, .inl (fun _ => 0)))]) ++ [((u 6), .inl (G 0, 6, .inl (fun _ => 0)))])
set_option maxHeartbeats 4000000 in
set_option maxRecDepth 100000 in
theorem ct_Folk (l : Launch) (G : Nat → ClassId) (D : va_G) (h0 : Nat) : bc_Met l D cl0 tbG G ⟨"SleptFor$Folk","<init>","()V"⟩ prog_3_method_1_code 1 1 6 44 [.ref h0] [(h0, .inr (1, [.int 0, .int 0, .null, .null, .null, .null, .null, .null]))] (fun u : Nat → Nat => u 0 = h0) (fun u => cw_Folk G u) := by
  refine bc_met pn_1 rfl (Nat.le_of_ble_eq_true rfl) (va_one _ _) (fun p e s m args below meth c sz ls hsz B hr hlk hin hl => ?_)
  have hl : lv_has ls 1 [(0, .ref h0)] := hl
  refine bc_al B (k := 0) (i := 0) (lv_at hl 0 rfl) rfl (by decide +kernel) ?_
  refine bc_oi B (idx := 3) (tb_m (i := 1) (j := 40) rfl rfl rfl) (tb_m (i := 1) (j := 27) rfl rfl rfl) (tb_m (i := 1) (j := 28) rfl rfl rfl) hl.1 ⟨by decide, by decide⟩ (by decide +kernel) ?_
  refine bc_al B (k := 0) (i := 0) (lv_at hl 0 rfl) rfl (by decide +kernel) ?_
  refine bc_bp B (n := 8) (v := nI 8) (by decide +kernel) (by decide +kernel) ?_
  refine bc_newI B (n := 8) (tb_m (i := 1) (j := 82) rfl rfl rfl) (by decide) (by decide) (by decide) (by decide +kernel) (fun q7 => ?_)
  refine bc_pf B hin cl0_ok (idx := 9) (ci := 1) (k := 2) (C := cn_1) (F := cf_1) (N := 8) (fs := [.int 0, .int 0, .null, .null, .null, .null, .null, .null]) (fs' := [.int 0, .int 0, .ref q7, .null, .null, .null, .null, .null]) (ty := .array .int) (v := .ref q7) rfl (by decide) ⟨rfl, rfl⟩ (tb_m (i := 1) (j := 45) rfl rfl rfl) rfl (cz_1 2 (by decide)) rfl rfl (Nat.le_of_ble_eq_true rfl) rfl (by decide +kernel) ?_
  refine bc_al B (k := 0) (i := 0) (lv_at hl 0 rfl) rfl (by decide +kernel) ?_
  refine bc_bp B (n := 8) (v := nI 8) (by decide +kernel) (by decide +kernel) ?_
  refine bc_newI B (n := 8) (tb_m (i := 1) (j := 82) rfl rfl rfl) (by decide) (by decide) (by decide) (by decide +kernel) (fun q15 => ?_)
  refine bc_pf B hin cl0_ok (idx := 15) (ci := 1) (k := 3) (C := cn_1) (F := cf_1) (N := 8) (fs := [.int 0, .int 0, .ref q7, .null, .null, .null, .null, .null]) (fs' := [.int 0, .int 0, .ref q7, .ref q15, .null, .null, .null, .null]) (ty := .array .int) (v := .ref q15) rfl (by decide) ⟨rfl, rfl⟩ (tb_m (i := 1) (j := 48) rfl rfl rfl) rfl (cz_1 3 (by decide)) rfl rfl (Nat.le_of_ble_eq_true rfl) rfl (by decide +kernel) ?_
  refine bc_al B (k := 0) (i := 0) (lv_at hl 0 rfl) rfl (by decide +kernel) ?_
  refine bc_bp B (n := 8) (v := nI 8) (by decide +kernel) (by decide +kernel) ?_
  refine bc_newI B (n := 8) (tb_m (i := 1) (j := 82) rfl rfl rfl) (by decide) (by decide) (by decide) (by decide +kernel) (fun q23 => ?_)
  refine bc_pf B hin cl0_ok (idx := 18) (ci := 1) (k := 4) (C := cn_1) (F := cf_1) (N := 8) (fs := [.int 0, .int 0, .ref q7, .ref q15, .null, .null, .null, .null]) (fs' := [.int 0, .int 0, .ref q7, .ref q15, .ref q23, .null, .null, .null]) (ty := .array .int) (v := .ref q23) rfl (by decide) ⟨rfl, rfl⟩ (tb_m (i := 1) (j := 51) rfl rfl rfl) rfl (cz_1 4 (by decide)) rfl rfl (Nat.le_of_ble_eq_true rfl) rfl (by decide +kernel) ?_
  refine bc_al B (k := 0) (i := 0) (lv_at hl 0 rfl) rfl (by decide +kernel) ?_
  refine bc_bp B (n := 8) (v := nI 8) (by decide +kernel) (by decide +kernel) ?_
  refine bc_newI B (n := 8) (tb_m (i := 1) (j := 82) rfl rfl rfl) (by decide) (by decide) (by decide) (by decide +kernel) (fun q31 => ?_)
  refine bc_pf B hin cl0_ok (idx := 21) (ci := 1) (k := 5) (C := cn_1) (F := cf_1) (N := 8) (fs := [.int 0, .int 0, .ref q7, .ref q15, .ref q23, .null, .null, .null]) (fs' := [.int 0, .int 0, .ref q7, .ref q15, .ref q23, .ref q31, .null, .null]) (ty := .array .int) (v := .ref q31) rfl (by decide) ⟨rfl, rfl⟩ (tb_m (i := 1) (j := 55) rfl rfl rfl) rfl (cz_1 5 (by decide)) rfl rfl (Nat.le_of_ble_eq_true rfl) rfl (by decide +kernel) ?_
  refine bc_al B (k := 0) (i := 0) (lv_at hl 0 rfl) rfl (by decide +kernel) ?_
  refine bc_bp B (n := 6) (v := nI 6) (by decide +kernel) (by decide +kernel) ?_
  refine bc_newI B (n := 6) (tb_m (i := 1) (j := 82) rfl rfl rfl) (by decide) (by decide) (by decide) (by decide +kernel) (fun q39 => ?_)
  refine bc_pf B hin cl0_ok (idx := 24) (ci := 1) (k := 6) (C := cn_1) (F := cf_1) (N := 8) (fs := [.int 0, .int 0, .ref q7, .ref q15, .ref q23, .ref q31, .null, .null]) (fs' := [.int 0, .int 0, .ref q7, .ref q15, .ref q23, .ref q31, .ref q39, .null]) (ty := .array .int) (v := .ref q39) rfl (by decide) ⟨rfl, rfl⟩ (tb_m (i := 1) (j := 58) rfl rfl rfl) rfl (cz_1 6 (by decide)) rfl rfl (Nat.le_of_ble_eq_true rfl) rfl (by decide +kernel) ?_
  refine bc_al B (k := 0) (i := 0) (lv_at hl 0 rfl) rfl (by decide +kernel) ?_
  refine bc_bp B (n := 6) (v := nI 6) (by decide +kernel) (by decide +kernel) ?_
  refine bc_newI B (n := 6) (tb_m (i := 1) (j := 82) rfl rfl rfl) (by decide) (by decide) (by decide) (by decide +kernel) (fun q47 => ?_)
  refine bc_pf B hin cl0_ok (idx := 27) (ci := 1) (k := 7) (C := cn_1) (F := cf_1) (N := 8) (fs := [.int 0, .int 0, .ref q7, .ref q15, .ref q23, .ref q31, .ref q39, .null]) (fs' := [.int 0, .int 0, .ref q7, .ref q15, .ref q23, .ref q31, .ref q39, .ref q47]) (ty := .array .int) (v := .ref q47) rfl (by decide) ⟨rfl, rfl⟩ (tb_m (i := 1) (j := 61) rfl rfl rfl) rfl (cz_1 7 (by decide)) rfl rfl (Nat.le_of_ble_eq_true rfl) rfl (by decide +kernel) ?_
  refine bc_wd (k := 6) (n := 44) (by decide) (by decide) ?_
  exact bc_ret B hr hlk (fun i => if i = 0 then h0 else if i = 1 then q7 else if i = 2 then q15 else if i = 3 then q23 else if i = 4 then q31 else if i = 5 then q39 else if i = 6 then q47 else 0) rfl rfl (by decide +kernel)
/-- Night: its cells when it is made -/
def cw_Night (G : Nat → ClassId) (u : Nat → Nat) : va_W := (u 0, .inr (3, [.ref (u 1), .ref (u 2), .ref (u 3), .ref (u 4), .ref (u 5), .ref (u 6), .int 0, .int (nI 43)])) :: (((((([] ++ [((u 1), .inl (G 0, 8, .inl (fun _ => 0)))]) ++ [((u 2), .inl (G 0, 8, .inl (upd (upd (upd (upd (upd (upd (upd (upd (fun _ => 0) 0 (-1)) 1 (-1)) 2 (-1)) 3 (-1)) 4 (-1)) 5 (-1)) 6 (-1)) 7 (-1))))]) ++ [((u 3), .inl (G 0, 8, .inl (fun _ => 0)))]) ++ [((u 4), .inl (G 0, 8, .inl (fun _ => 0)))]) ++ [((u 5), .inl (G 0, 64, .inl (fun _ => 0)))]) ++ [((u 6), .inl (G 0, 6, .inl (fun _ => 0)))])
set_option maxHeartbeats 4000000 in
set_option maxRecDepth 100000 in
theorem ct_Night (l : Launch) (G : Nat → ClassId) (D : va_G) (h0 : Nat) : bc_Met l D cl0 tbG G ⟨"SleptFor$Night","<init>","()V"⟩ prog_5_method_1_code 1 1 6 102 [.ref h0] [(h0, .inr (3, [.null, .null, .null, .null, .null, .null, .int 0, .int 0]))] (fun u : Nat → Nat => u 0 = h0) (fun u => cw_Night G u) := by
  refine bc_met pn_3 rfl (Nat.le_of_ble_eq_true rfl) (va_one _ _) (fun p e s m args below meth c sz ls hsz B hr hlk hin hl => ?_)
  have hl : lv_has ls 1 [(0, .ref h0)] := hl
  refine bc_al B (k := 0) (i := 0) (lv_at hl 0 rfl) rfl (by decide +kernel) ?_
  refine bc_oi B (idx := 5) (tb_m (i := 1) (j := 88) rfl rfl rfl) (tb_m (i := 1) (j := 27) rfl rfl rfl) (tb_m (i := 1) (j := 28) rfl rfl rfl) hl.1 ⟨by decide, by decide⟩ (by decide +kernel) ?_
  refine bc_al B (k := 0) (i := 0) (lv_at hl 0 rfl) rfl (by decide +kernel) ?_
  refine bc_bp B (n := 8) (v := nI 8) (by decide +kernel) (by decide +kernel) ?_
  refine bc_newI B (n := 8) (tb_m (i := 1) (j := 82) rfl rfl rfl) (by decide) (by decide) (by decide) (by decide +kernel) (fun q7 => ?_)
  refine bc_pf B hin cl0_ok (idx := 11) (ci := 3) (k := 0) (C := cn_3) (F := cf_3) (N := 8) (fs := [.null, .null, .null, .null, .null, .null, .int 0, .int 0]) (fs' := [.ref q7, .null, .null, .null, .null, .null, .int 0, .int 0]) (ty := .array .int) (v := .ref q7) rfl (by decide) ⟨rfl, rfl⟩ (tb_m (i := 1) (j := 89) rfl rfl rfl) rfl (cz_3 0 (by decide)) rfl rfl (Nat.le_of_ble_eq_true rfl) rfl (by decide +kernel) ?_
  refine bc_al B (k := 0) (i := 0) (lv_at hl 0 rfl) rfl (by decide +kernel) ?_
  refine bc_bp B (n := 8) (v := nI 8) (by decide +kernel) (by decide +kernel) ?_
  refine bc_newI B (n := 8) (tb_m (i := 1) (j := 82) rfl rfl rfl) (by decide) (by decide) (by decide) (by decide +kernel) (fun q15 => ?_)
  refine bc_dup B rfl (by decide +kernel) ?_
  refine bc_ic B (n := 0) (v := nI 0) (by decide +kernel) (by decide +kernel) ?_
  refine bc_ic B (n := -1) (v := (-1)) (by decide +kernel) (by decide +kernel) ?_
  refine bc_ia B 2 (i := 0) (n := 8) (f := (fun _ => 0)) (ws' := [(h0, .inr (3, [.ref q7, .null, .null, .null, .null, .null, .int 0, .int 0])), (q7, .inl (G 0, 8, .inl (fun _ => 0))), (q15, .inl (G 0, 8, .inl (upd (fun _ => 0) 0 (-1))))]) rfl (by decide) (by decide) rfl (by decide +kernel) ?_
  refine bc_dup B rfl (by decide +kernel) ?_
  refine bc_ic B (n := 1) (v := nI 1) (by decide +kernel) (by decide +kernel) ?_
  refine bc_ic B (n := -1) (v := (-1)) (by decide +kernel) (by decide +kernel) ?_
  refine bc_ia B 2 (i := 1) (n := 8) (f := (upd (fun _ => 0) 0 (-1))) (ws' := [(h0, .inr (3, [.ref q7, .null, .null, .null, .null, .null, .int 0, .int 0])), (q7, .inl (G 0, 8, .inl (fun _ => 0))), (q15, .inl (G 0, 8, .inl (upd (upd (fun _ => 0) 0 (-1)) 1 (-1))))]) rfl (by decide) (by decide) rfl (by decide +kernel) ?_
  refine bc_dup B rfl (by decide +kernel) ?_
  refine bc_ic B (n := 2) (v := nI 2) (by decide +kernel) (by decide +kernel) ?_
  refine bc_ic B (n := -1) (v := (-1)) (by decide +kernel) (by decide +kernel) ?_
  refine bc_ia B 2 (i := 2) (n := 8) (f := (upd (upd (fun _ => 0) 0 (-1)) 1 (-1))) (ws' := [(h0, .inr (3, [.ref q7, .null, .null, .null, .null, .null, .int 0, .int 0])), (q7, .inl (G 0, 8, .inl (fun _ => 0))), (q15, .inl (G 0, 8, .inl (upd (upd (upd (fun _ => 0) 0 (-1)) 1 (-1)) 2 (-1))))]) rfl (by decide) (by decide) rfl (by decide +kernel) ?_
  refine bc_dup B rfl (by decide +kernel) ?_
  refine bc_ic B (n := 3) (v := nI 3) (by decide +kernel) (by decide +kernel) ?_
  refine bc_ic B (n := -1) (v := (-1)) (by decide +kernel) (by decide +kernel) ?_
  refine bc_ia B 2 (i := 3) (n := 8) (f := (upd (upd (upd (fun _ => 0) 0 (-1)) 1 (-1)) 2 (-1))) (ws' := [(h0, .inr (3, [.ref q7, .null, .null, .null, .null, .null, .int 0, .int 0])), (q7, .inl (G 0, 8, .inl (fun _ => 0))), (q15, .inl (G 0, 8, .inl (upd (upd (upd (upd (fun _ => 0) 0 (-1)) 1 (-1)) 2 (-1)) 3 (-1))))]) rfl (by decide) (by decide) rfl (by decide +kernel) ?_
  refine bc_dup B rfl (by decide +kernel) ?_
  refine bc_ic B (n := 4) (v := nI 4) (by decide +kernel) (by decide +kernel) ?_
  refine bc_ic B (n := -1) (v := (-1)) (by decide +kernel) (by decide +kernel) ?_
  refine bc_ia B 2 (i := 4) (n := 8) (f := (upd (upd (upd (upd (fun _ => 0) 0 (-1)) 1 (-1)) 2 (-1)) 3 (-1))) (ws' := [(h0, .inr (3, [.ref q7, .null, .null, .null, .null, .null, .int 0, .int 0])), (q7, .inl (G 0, 8, .inl (fun _ => 0))), (q15, .inl (G 0, 8, .inl (upd (upd (upd (upd (upd (fun _ => 0) 0 (-1)) 1 (-1)) 2 (-1)) 3 (-1)) 4 (-1))))]) rfl (by decide) (by decide) rfl (by decide +kernel) ?_
  refine bc_dup B rfl (by decide +kernel) ?_
  refine bc_ic B (n := 5) (v := nI 5) (by decide +kernel) (by decide +kernel) ?_
  refine bc_ic B (n := -1) (v := (-1)) (by decide +kernel) (by decide +kernel) ?_
  refine bc_ia B 2 (i := 5) (n := 8) (f := (upd (upd (upd (upd (upd (fun _ => 0) 0 (-1)) 1 (-1)) 2 (-1)) 3 (-1)) 4 (-1))) (ws' := [(h0, .inr (3, [.ref q7, .null, .null, .null, .null, .null, .int 0, .int 0])), (q7, .inl (G 0, 8, .inl (fun _ => 0))), (q15, .inl (G 0, 8, .inl (upd (upd (upd (upd (upd (upd (fun _ => 0) 0 (-1)) 1 (-1)) 2 (-1)) 3 (-1)) 4 (-1)) 5 (-1))))]) rfl (by decide) (by decide) rfl (by decide +kernel) ?_
  refine bc_dup B rfl (by decide +kernel) ?_
  refine bc_bp B (n := 6) (v := nI 6) (by decide +kernel) (by decide +kernel) ?_
  refine bc_ic B (n := -1) (v := (-1)) (by decide +kernel) (by decide +kernel) ?_
  refine bc_ia B 2 (i := 6) (n := 8) (f := (upd (upd (upd (upd (upd (upd (fun _ => 0) 0 (-1)) 1 (-1)) 2 (-1)) 3 (-1)) 4 (-1)) 5 (-1))) (ws' := [(h0, .inr (3, [.ref q7, .null, .null, .null, .null, .null, .int 0, .int 0])), (q7, .inl (G 0, 8, .inl (fun _ => 0))), (q15, .inl (G 0, 8, .inl (upd (upd (upd (upd (upd (upd (upd (fun _ => 0) 0 (-1)) 1 (-1)) 2 (-1)) 3 (-1)) 4 (-1)) 5 (-1)) 6 (-1))))]) rfl (by decide) (by decide) rfl (by decide +kernel) ?_
  refine bc_dup B rfl (by decide +kernel) ?_
  refine bc_bp B (n := 7) (v := nI 7) (by decide +kernel) (by decide +kernel) ?_
  refine bc_ic B (n := -1) (v := (-1)) (by decide +kernel) (by decide +kernel) ?_
  refine bc_ia B 2 (i := 7) (n := 8) (f := (upd (upd (upd (upd (upd (upd (upd (fun _ => 0) 0 (-1)) 1 (-1)) 2 (-1)) 3 (-1)) 4 (-1)) 5 (-1)) 6 (-1))) (ws' := [(h0, .inr (3, [.ref q7, .null, .null, .null, .null, .null, .int 0, .int 0])), (q7, .inl (G 0, 8, .inl (fun _ => 0))), (q15, .inl (G 0, 8, .inl (upd (upd (upd (upd (upd (upd (upd (upd (fun _ => 0) 0 (-1)) 1 (-1)) 2 (-1)) 3 (-1)) 4 (-1)) 5 (-1)) 6 (-1)) 7 (-1))))]) rfl (by decide) (by decide) rfl (by decide +kernel) ?_
  refine bc_pf B hin cl0_ok (idx := 15) (ci := 3) (k := 1) (C := cn_3) (F := cf_3) (N := 8) (fs := [.ref q7, .null, .null, .null, .null, .null, .int 0, .int 0]) (fs' := [.ref q7, .ref q15, .null, .null, .null, .null, .int 0, .int 0]) (ty := .array .int) (v := .ref q15) rfl (by decide) ⟨rfl, rfl⟩ (tb_m (i := 1) (j := 93) rfl rfl rfl) rfl (cz_3 1 (by decide)) rfl rfl (Nat.le_of_ble_eq_true rfl) rfl (by decide +kernel) ?_
  refine bc_al B (k := 0) (i := 0) (lv_at hl 0 rfl) rfl (by decide +kernel) ?_
  refine bc_bp B (n := 8) (v := nI 8) (by decide +kernel) (by decide +kernel) ?_
  refine bc_newI B (n := 8) (tb_m (i := 1) (j := 82) rfl rfl rfl) (by decide) (by decide) (by decide) (by decide +kernel) (fun q57 => ?_)
  refine bc_pf B hin cl0_ok (idx := 18) (ci := 3) (k := 2) (C := cn_3) (F := cf_3) (N := 8) (fs := [.ref q7, .ref q15, .null, .null, .null, .null, .int 0, .int 0]) (fs' := [.ref q7, .ref q15, .ref q57, .null, .null, .null, .int 0, .int 0]) (ty := .array .int) (v := .ref q57) rfl (by decide) ⟨rfl, rfl⟩ (tb_m (i := 1) (j := 98) rfl rfl rfl) rfl (cz_3 2 (by decide)) rfl rfl (Nat.le_of_ble_eq_true rfl) rfl (by decide +kernel) ?_
  refine bc_al B (k := 0) (i := 0) (lv_at hl 0 rfl) rfl (by decide +kernel) ?_
  refine bc_bp B (n := 8) (v := nI 8) (by decide +kernel) (by decide +kernel) ?_
  refine bc_newI B (n := 8) (tb_m (i := 1) (j := 82) rfl rfl rfl) (by decide) (by decide) (by decide) (by decide +kernel) (fun q65 => ?_)
  refine bc_pf B hin cl0_ok (idx := 21) (ci := 3) (k := 3) (C := cn_3) (F := cf_3) (N := 8) (fs := [.ref q7, .ref q15, .ref q57, .null, .null, .null, .int 0, .int 0]) (fs' := [.ref q7, .ref q15, .ref q57, .ref q65, .null, .null, .int 0, .int 0]) (ty := .array .int) (v := .ref q65) rfl (by decide) ⟨rfl, rfl⟩ (tb_m (i := 1) (j := 102) rfl rfl rfl) rfl (cz_3 3 (by decide)) rfl rfl (Nat.le_of_ble_eq_true rfl) rfl (by decide +kernel) ?_
  refine bc_al B (k := 0) (i := 0) (lv_at hl 0 rfl) rfl (by decide +kernel) ?_
  refine bc_bp B (n := 64) (v := nI 64) (by decide +kernel) (by decide +kernel) ?_
  refine bc_newI B (n := 64) (tb_m (i := 1) (j := 82) rfl rfl rfl) (by decide) (by decide) (by decide) (by decide +kernel) (fun q73 => ?_)
  refine bc_pf B hin cl0_ok (idx := 24) (ci := 3) (k := 4) (C := cn_3) (F := cf_3) (N := 8) (fs := [.ref q7, .ref q15, .ref q57, .ref q65, .null, .null, .int 0, .int 0]) (fs' := [.ref q7, .ref q15, .ref q57, .ref q65, .ref q73, .null, .int 0, .int 0]) (ty := .array .int) (v := .ref q73) rfl (by decide) ⟨rfl, rfl⟩ (tb_m (i := 1) (j := 106) rfl rfl rfl) rfl (cz_3 4 (by decide)) rfl rfl (Nat.le_of_ble_eq_true rfl) rfl (by decide +kernel) ?_
  refine bc_al B (k := 0) (i := 0) (lv_at hl 0 rfl) rfl (by decide +kernel) ?_
  refine bc_bp B (n := 6) (v := nI 6) (by decide +kernel) (by decide +kernel) ?_
  refine bc_newI B (n := 6) (tb_m (i := 1) (j := 82) rfl rfl rfl) (by decide) (by decide) (by decide) (by decide +kernel) (fun q81 => ?_)
  refine bc_pf B hin cl0_ok (idx := 27) (ci := 3) (k := 5) (C := cn_3) (F := cf_3) (N := 8) (fs := [.ref q7, .ref q15, .ref q57, .ref q65, .ref q73, .null, .int 0, .int 0]) (fs' := [.ref q7, .ref q15, .ref q57, .ref q65, .ref q73, .ref q81, .int 0, .int 0]) (ty := .array .int) (v := .ref q81) rfl (by decide) ⟨rfl, rfl⟩ (tb_m (i := 1) (j := 111) rfl rfl rfl) rfl (cz_3 5 (by decide)) rfl rfl (Nat.le_of_ble_eq_true rfl) rfl (by decide +kernel) ?_
  refine bc_al B (k := 0) (i := 0) (lv_at hl 0 rfl) rfl (by decide +kernel) ?_
  refine bc_bp B (n := 43) (v := nI 43) (by decide +kernel) (by decide +kernel) ?_
  refine bc_pv B cl0_ok (idx := 30) (ci := 3) (k := 7) (C := cn_3) (F := cf_3) (N := 8) (fs := [.ref q7, .ref q15, .ref q57, .ref q65, .ref q73, .ref q81, .int 0, .int 0]) (fs' := [.ref q7, .ref q15, .ref q57, .ref q65, .ref q73, .ref q81, .int 0, .int (nI 43)]) (ty := .int) (v := .int (nI 43)) rfl (by decide) ⟨rfl, rfl⟩ (tb_m (i := 1) (j := 121) rfl rfl rfl) (cz_3 7 (by decide)) rfl rfl (Nat.le_of_ble_eq_true rfl) rfl (by decide +kernel) ?_
  refine bc_wd (k := 6) (n := 102) (by decide) (by decide) ?_
  exact bc_ret B hr hlk (fun i => if i = 0 then h0 else if i = 1 then q7 else if i = 2 then q15 else if i = 3 then q57 else if i = 4 then q65 else if i = 5 then q73 else if i = 6 then q81 else 0) rfl rfl (by decide +kernel)
/-- Steps: its cells when it is made -/
def cw_Steps (G : Nat → ClassId) (u : Nat → Nat) : va_W := (u 0, .inr (8, [.ref (u 1), .int 0, .int 0])) :: [((u 1), .inl (G 0, 3120, .inl (fun _ => 0)))]
set_option maxHeartbeats 4000000 in
set_option maxRecDepth 100000 in
theorem ct_Steps (l : Launch) (G : Nat → ClassId) (D : va_G) (h0 : Nat) : bc_Met l D cl0 tbG G ⟨"SleptFor$Steps","<init>","()V"⟩ prog_10_method_1_code 1 1 1 3120 [.ref h0] [(h0, .inr (8, [.null, .int 0, .int 0]))] (fun u : Nat → Nat => u 0 = h0) (fun u => cw_Steps G u) := by
  refine bc_met pn_8 rfl (Nat.le_of_ble_eq_true rfl) (va_one _ _) (fun p e s m args below meth c sz ls hsz B hr hlk hin hl => ?_)
  have hl : lv_has ls 1 [(0, .ref h0)] := hl
  refine bc_al B (k := 0) (i := 0) (lv_at hl 0 rfl) rfl (by decide +kernel) ?_
  refine bc_oi B (idx := 3) (tb_m (i := 1) (j := 145) rfl rfl rfl) (tb_m (i := 1) (j := 27) rfl rfl rfl) (tb_m (i := 1) (j := 28) rfl rfl rfl) hl.1 ⟨by decide, by decide⟩ (by decide +kernel) ?_
  refine bc_al B (k := 0) (i := 0) (lv_at hl 0 rfl) rfl (by decide +kernel) ?_
  refine bc_sp B (n := 3120) (v := nI 3120) (by decide +kernel) (by decide +kernel) ?_
  refine bc_newI B (n := 3120) (tb_m (i := 1) (j := 82) rfl rfl rfl) (by decide) (by decide) (by decide) (by decide +kernel) (fun q8 => ?_)
  refine bc_pf B hin cl0_ok (idx := 11) (ci := 8) (k := 0) (C := cn_8) (F := cf_8) (N := 3) (fs := [.null, .int 0, .int 0]) (fs' := [.ref q8, .int 0, .int 0]) (ty := .array .int) (v := .ref q8) rfl (by decide) ⟨rfl, rfl⟩ (tb_m (i := 1) (j := 146) rfl rfl rfl) rfl (cz_8 0 (by decide)) rfl rfl (Nat.le_of_ble_eq_true rfl) rfl (by decide +kernel) ?_
  refine bc_wd (k := 1) (n := 3120) (by decide) (by decide) ?_
  exact bc_ret B hr hlk (fun i => if i = 0 then h0 else if i = 1 then q8 else 0) rfl rfl (by decide +kernel)
/-- Text: its cells when it is made -/
def cw_Text (G : Nat → ClassId) (u : Nat → Nat) : va_W := (u 0, .inr (9, [.ref (u 1), .ref (u 2), .ref (u 3), .ref (u 4), .int 0, .ref (u 5), .ref (u 6), .int 0])) :: (((((([] ++ [((u 1), .inl (G 0, 24, .inl (fun _ => 0)))]) ++ [((u 2), .inl (G 0, 24, .inl (fun _ => 0)))]) ++ [((u 3), .inl (G 0, 24, .inl (fun _ => 0)))]) ++ [((u 4), .inl (G 0, 24, .inl (fun _ => 0)))]) ++ [((u 5), .inl (G 0, 4, .inl (upd (upd (upd (upd (fun _ => 0) 0 (-1)) 1 (-1)) 2 (-1)) 3 (-1))))]) ++ [((u 6), .inl (G 0, 300, .inl (fun _ => 0)))])
set_option maxHeartbeats 4000000 in
set_option maxRecDepth 100000 in
theorem ct_Text (l : Launch) (G : Nat → ClassId) (D : va_G) (h0 : Nat) : bc_Met l D cl0 tbG G ⟨"SleptFor$Text","<init>","()V"⟩ prog_11_method_1_code 1 1 6 400 [.ref h0] [(h0, .inr (9, [.null, .null, .null, .null, .int 0, .null, .null, .int 0]))] (fun u : Nat → Nat => u 0 = h0) (fun u => cw_Text G u) := by
  refine bc_met pn_9 rfl (Nat.le_of_ble_eq_true rfl) (va_one _ _) (fun p e s m args below meth c sz ls hsz B hr hlk hin hl => ?_)
  have hl : lv_has ls 1 [(0, .ref h0)] := hl
  refine bc_al B (k := 0) (i := 0) (lv_at hl 0 rfl) rfl (by decide +kernel) ?_
  refine bc_oi B (idx := 3) (tb_m (i := 1) (j := 202) rfl rfl rfl) (tb_m (i := 1) (j := 27) rfl rfl rfl) (tb_m (i := 1) (j := 28) rfl rfl rfl) hl.1 ⟨by decide, by decide⟩ (by decide +kernel) ?_
  refine bc_al B (k := 0) (i := 0) (lv_at hl 0 rfl) rfl (by decide +kernel) ?_
  refine bc_bp B (n := 24) (v := nI 24) (by decide +kernel) (by decide +kernel) ?_
  refine bc_newI B (n := 24) (tb_m (i := 1) (j := 82) rfl rfl rfl) (by decide) (by decide) (by decide) (by decide +kernel) (fun q7 => ?_)
  refine bc_pf B hin cl0_ok (idx := 9) (ci := 9) (k := 0) (C := cn_9) (F := cf_9) (N := 8) (fs := [.null, .null, .null, .null, .int 0, .null, .null, .int 0]) (fs' := [.ref q7, .null, .null, .null, .int 0, .null, .null, .int 0]) (ty := .array .int) (v := .ref q7) rfl (by decide) ⟨rfl, rfl⟩ (tb_m (i := 1) (j := 203) rfl rfl rfl) rfl (cz_9 0 (by decide)) rfl rfl (Nat.le_of_ble_eq_true rfl) rfl (by decide +kernel) ?_
  refine bc_al B (k := 0) (i := 0) (lv_at hl 0 rfl) rfl (by decide +kernel) ?_
  refine bc_bp B (n := 24) (v := nI 24) (by decide +kernel) (by decide +kernel) ?_
  refine bc_newI B (n := 24) (tb_m (i := 1) (j := 82) rfl rfl rfl) (by decide) (by decide) (by decide) (by decide +kernel) (fun q15 => ?_)
  refine bc_pf B hin cl0_ok (idx := 15) (ci := 9) (k := 1) (C := cn_9) (F := cf_9) (N := 8) (fs := [.ref q7, .null, .null, .null, .int 0, .null, .null, .int 0]) (fs' := [.ref q7, .ref q15, .null, .null, .int 0, .null, .null, .int 0]) (ty := .array .int) (v := .ref q15) rfl (by decide) ⟨rfl, rfl⟩ (tb_m (i := 1) (j := 206) rfl rfl rfl) rfl (cz_9 1 (by decide)) rfl rfl (Nat.le_of_ble_eq_true rfl) rfl (by decide +kernel) ?_
  refine bc_al B (k := 0) (i := 0) (lv_at hl 0 rfl) rfl (by decide +kernel) ?_
  refine bc_bp B (n := 24) (v := nI 24) (by decide +kernel) (by decide +kernel) ?_
  refine bc_newI B (n := 24) (tb_m (i := 1) (j := 82) rfl rfl rfl) (by decide) (by decide) (by decide) (by decide +kernel) (fun q23 => ?_)
  refine bc_pf B hin cl0_ok (idx := 18) (ci := 9) (k := 2) (C := cn_9) (F := cf_9) (N := 8) (fs := [.ref q7, .ref q15, .null, .null, .int 0, .null, .null, .int 0]) (fs' := [.ref q7, .ref q15, .ref q23, .null, .int 0, .null, .null, .int 0]) (ty := .array .int) (v := .ref q23) rfl (by decide) ⟨rfl, rfl⟩ (tb_m (i := 1) (j := 209) rfl rfl rfl) rfl (cz_9 2 (by decide)) rfl rfl (Nat.le_of_ble_eq_true rfl) rfl (by decide +kernel) ?_
  refine bc_al B (k := 0) (i := 0) (lv_at hl 0 rfl) rfl (by decide +kernel) ?_
  refine bc_bp B (n := 24) (v := nI 24) (by decide +kernel) (by decide +kernel) ?_
  refine bc_newI B (n := 24) (tb_m (i := 1) (j := 82) rfl rfl rfl) (by decide) (by decide) (by decide) (by decide +kernel) (fun q31 => ?_)
  refine bc_pf B hin cl0_ok (idx := 21) (ci := 9) (k := 3) (C := cn_9) (F := cf_9) (N := 8) (fs := [.ref q7, .ref q15, .ref q23, .null, .int 0, .null, .null, .int 0]) (fs' := [.ref q7, .ref q15, .ref q23, .ref q31, .int 0, .null, .null, .int 0]) (ty := .array .int) (v := .ref q31) rfl (by decide) ⟨rfl, rfl⟩ (tb_m (i := 1) (j := 212) rfl rfl rfl) rfl (cz_9 3 (by decide)) rfl rfl (Nat.le_of_ble_eq_true rfl) rfl (by decide +kernel) ?_
  refine bc_al B (k := 0) (i := 0) (lv_at hl 0 rfl) rfl (by decide +kernel) ?_
  refine bc_ic B (n := 4) (v := nI 4) (by decide +kernel) (by decide +kernel) ?_
  refine bc_newI B (n := 4) (tb_m (i := 1) (j := 82) rfl rfl rfl) (by decide) (by decide) (by decide) (by decide +kernel) (fun q38 => ?_)
  refine bc_dup B rfl (by decide +kernel) ?_
  refine bc_ic B (n := 0) (v := nI 0) (by decide +kernel) (by decide +kernel) ?_
  refine bc_ic B (n := -1) (v := (-1)) (by decide +kernel) (by decide +kernel) ?_
  refine bc_ia B 5 (i := 0) (n := 4) (f := (fun _ => 0)) (ws' := [(h0, .inr (9, [.ref q7, .ref q15, .ref q23, .ref q31, .int 0, .null, .null, .int 0])), (q7, .inl (G 0, 24, .inl (fun _ => 0))), (q15, .inl (G 0, 24, .inl (fun _ => 0))), (q23, .inl (G 0, 24, .inl (fun _ => 0))), (q31, .inl (G 0, 24, .inl (fun _ => 0))), (q38, .inl (G 0, 4, .inl (upd (fun _ => 0) 0 (-1))))]) rfl (by decide) (by decide) rfl (by decide +kernel) ?_
  refine bc_dup B rfl (by decide +kernel) ?_
  refine bc_ic B (n := 1) (v := nI 1) (by decide +kernel) (by decide +kernel) ?_
  refine bc_ic B (n := -1) (v := (-1)) (by decide +kernel) (by decide +kernel) ?_
  refine bc_ia B 5 (i := 1) (n := 4) (f := (upd (fun _ => 0) 0 (-1))) (ws' := [(h0, .inr (9, [.ref q7, .ref q15, .ref q23, .ref q31, .int 0, .null, .null, .int 0])), (q7, .inl (G 0, 24, .inl (fun _ => 0))), (q15, .inl (G 0, 24, .inl (fun _ => 0))), (q23, .inl (G 0, 24, .inl (fun _ => 0))), (q31, .inl (G 0, 24, .inl (fun _ => 0))), (q38, .inl (G 0, 4, .inl (upd (upd (fun _ => 0) 0 (-1)) 1 (-1))))]) rfl (by decide) (by decide) rfl (by decide +kernel) ?_
  refine bc_dup B rfl (by decide +kernel) ?_
  refine bc_ic B (n := 2) (v := nI 2) (by decide +kernel) (by decide +kernel) ?_
  refine bc_ic B (n := -1) (v := (-1)) (by decide +kernel) (by decide +kernel) ?_
  refine bc_ia B 5 (i := 2) (n := 4) (f := (upd (upd (fun _ => 0) 0 (-1)) 1 (-1))) (ws' := [(h0, .inr (9, [.ref q7, .ref q15, .ref q23, .ref q31, .int 0, .null, .null, .int 0])), (q7, .inl (G 0, 24, .inl (fun _ => 0))), (q15, .inl (G 0, 24, .inl (fun _ => 0))), (q23, .inl (G 0, 24, .inl (fun _ => 0))), (q31, .inl (G 0, 24, .inl (fun _ => 0))), (q38, .inl (G 0, 4, .inl (upd (upd (upd (fun _ => 0) 0 (-1)) 1 (-1)) 2 (-1))))]) rfl (by decide) (by decide) rfl (by decide +kernel) ?_
  refine bc_dup B rfl (by decide +kernel) ?_
  refine bc_ic B (n := 3) (v := nI 3) (by decide +kernel) (by decide +kernel) ?_
  refine bc_ic B (n := -1) (v := (-1)) (by decide +kernel) (by decide +kernel) ?_
  refine bc_ia B 5 (i := 3) (n := 4) (f := (upd (upd (upd (fun _ => 0) 0 (-1)) 1 (-1)) 2 (-1))) (ws' := [(h0, .inr (9, [.ref q7, .ref q15, .ref q23, .ref q31, .int 0, .null, .null, .int 0])), (q7, .inl (G 0, 24, .inl (fun _ => 0))), (q15, .inl (G 0, 24, .inl (fun _ => 0))), (q23, .inl (G 0, 24, .inl (fun _ => 0))), (q31, .inl (G 0, 24, .inl (fun _ => 0))), (q38, .inl (G 0, 4, .inl (upd (upd (upd (upd (fun _ => 0) 0 (-1)) 1 (-1)) 2 (-1)) 3 (-1))))]) rfl (by decide) (by decide) rfl (by decide +kernel) ?_
  refine bc_pf B hin cl0_ok (idx := 24) (ci := 9) (k := 5) (C := cn_9) (F := cf_9) (N := 8) (fs := [.ref q7, .ref q15, .ref q23, .ref q31, .int 0, .null, .null, .int 0]) (fs' := [.ref q7, .ref q15, .ref q23, .ref q31, .int 0, .ref q38, .null, .int 0]) (ty := .array .int) (v := .ref q38) rfl (by decide) ⟨rfl, rfl⟩ (tb_m (i := 1) (j := 218) rfl rfl rfl) rfl (cz_9 5 (by decide)) rfl rfl (Nat.le_of_ble_eq_true rfl) rfl (by decide +kernel) ?_
  refine bc_al B (k := 0) (i := 0) (lv_at hl 0 rfl) rfl (by decide +kernel) ?_
  refine bc_sp B (n := 300) (v := nI 300) (by decide +kernel) (by decide +kernel) ?_
  refine bc_newI B (n := 300) (tb_m (i := 1) (j := 82) rfl rfl rfl) (by decide) (by decide) (by decide) (by decide +kernel) (fun q63 => ?_)
  refine bc_pf B hin cl0_ok (idx := 27) (ci := 9) (k := 6) (C := cn_9) (F := cf_9) (N := 8) (fs := [.ref q7, .ref q15, .ref q23, .ref q31, .int 0, .ref q38, .null, .int 0]) (fs' := [.ref q7, .ref q15, .ref q23, .ref q31, .int 0, .ref q38, .ref q63, .int 0]) (ty := .array .int) (v := .ref q63) rfl (by decide) ⟨rfl, rfl⟩ (tb_m (i := 1) (j := 221) rfl rfl rfl) rfl (cz_9 6 (by decide)) rfl rfl (Nat.le_of_ble_eq_true rfl) rfl (by decide +kernel) ?_
  refine bc_wd (k := 6) (n := 400) (by decide) (by decide) ?_
  exact bc_ret B hr hlk (fun i => if i = 0 then h0 else if i = 1 then q7 else if i = 2 then q15 else if i = 3 then q23 else if i = 4 then q31 else if i = 5 then q38 else if i = 6 then q63 else 0) rfl rfl (by decide +kernel)
/-- Valley: its cells when it is made -/
def cw_Valley (G : Nat → ClassId) (u : Nat → Nat) : va_W := (u 0, .inr (10, [.ref (u 1), .ref (u 8), .ref (u 15), .ref (u 17), .int 0, .int (-1)])) :: (((([] ++ cw_Folk G (fun i => u (1 + i))) ++ cw_Night G (fun i => u (8 + i))) ++ cw_Steps G (fun i => u (15 + i))) ++ [((u 17), .inl (G 0, 999, .inl (fun _ => 0)))])
set_option maxHeartbeats 4000000 in
set_option maxRecDepth 100000 in
theorem ct_Valley (l : Launch) (G : Nat → ClassId) (D : va_G) (h0 : Nat) : bc_Met l D cl0 tbG G ⟨"SleptFor$Valley","<init>","()V"⟩ prog_12_method_1_code 1 2 17 4284 [.ref h0] [(h0, .inr (10, [.null, .null, .null, .null, .int 0, .int 0]))] (fun u : Nat → Nat => u 0 = h0) (fun u => cw_Valley G u) := by
  refine bc_met pn_10 rfl (Nat.le_of_ble_eq_true rfl) (va_one _ _) (fun p e s m args below meth c sz ls hsz B hr hlk hin hl => ?_)
  have hl : lv_has ls 1 [(0, .ref h0)] := hl
  refine bc_al B (k := 0) (i := 0) (lv_at hl 0 rfl) rfl (by decide +kernel) ?_
  refine bc_oi B (idx := 3) (tb_m (i := 1) (j := 34) rfl rfl rfl) (tb_m (i := 1) (j := 27) rfl rfl rfl) (tb_m (i := 1) (j := 28) rfl rfl rfl) hl.1 ⟨by decide, by decide⟩ (by decide +kernel) ?_
  refine bc_al B (k := 0) (i := 0) (lv_at hl 0 rfl) rfl (by decide +kernel) ?_
  refine bc_nw B cl0_ok (idx := 9) (ci := 1) (C := cn_1) (F := cf_1) (N := 8) (fs := [.int 0, .int 0, .null, .null, .null, .null, .null, .null]) (ty := cy_1) rfl cz_1 (fun j hj => by rcases (show j = 0 ∨ j = 1 ∨ j = 2 ∨ j = 3 ∨ j = 4 ∨ j = 5 ∨ j = 6 ∨ j = 7 by omega) with rfl | rfl | rfl | rfl | rfl | rfl | rfl | rfl <;> rfl) (tb_m (i := 1) (j := 35) rfl rfl rfl) (tb_m (i := 1) (j := 36) rfl rfl rfl) (tb_m (i := 1) (j := 3) rfl rfl rfl) (by decide) (by decide) (by decide +kernel) (fun q5 => ?_)
  refine bc_dup B rfl (by decide +kernel) ?_
  refine bc_callN (index := 11) (As := []) (rest := [.ref q5, .ref h0]) B (ct_Folk l G D q5) tbG_good (tb_m (i := 1) (j := 3) rfl rfl rfl) (nest_m (j := 1) rfl) (tb_m (i := 1) (j := 38) rfl rfl rfl) (tb_m (i := 1) (j := 39) rfl rfl rfl) rfl ⟨nh_1.1, nh_1.2, (show (parseMethodDescriptor "()V").map (fun d => d.parameters.length) = some 0 by decide +kernel)⟩ ⟨by decide, by decide⟩ (by decide) (by decide) hl.1 rfl (Nat.le_of_ble_eq_true rfl) (by decide +kernel) (fun u0 huu0 => ?_)
  have huu0 : u0 0 = q5 := huu0
  subst huu0
  refine bc_pf B hin cl0_ok (idx := 12) (ci := 10) (k := 0) (C := cn_10) (F := cf_10) (N := 6) (fs := [.null, .null, .null, .null, .int 0, .int 0]) (fs' := [.ref (u0 0), .null, .null, .null, .int 0, .int 0]) (ty := .object "SleptFor$Folk") (v := .ref (u0 0)) rfl (by decide) ⟨rfl, rfl⟩ (tb_m (i := 1) (j := 157) rfl rfl rfl) rfl (cz_10 0 (by decide)) rfl rfl (Nat.le_of_ble_eq_true rfl) rfl (by decide +kernel) ?_
  refine bc_al B (k := 0) (i := 0) (lv_at hl 0 rfl) rfl (by decide +kernel) ?_
  refine bc_nw B cl0_ok (idx := 18) (ci := 3) (C := cn_3) (F := cf_3) (N := 8) (fs := [.null, .null, .null, .null, .null, .null, .int 0, .int 0]) (ty := cy_3) rfl cz_3 (fun j hj => by rcases (show j = 0 ∨ j = 1 ∨ j = 2 ∨ j = 3 ∨ j = 4 ∨ j = 5 ∨ j = 6 ∨ j = 7 by omega) with rfl | rfl | rfl | rfl | rfl | rfl | rfl | rfl <;> rfl) (tb_m (i := 1) (j := 83) rfl rfl rfl) (tb_m (i := 1) (j := 84) rfl rfl rfl) (tb_m (i := 1) (j := 4) rfl rfl rfl) (by decide) (by decide) (by decide +kernel) (fun q16 => ?_)
  refine bc_dup B rfl (by decide +kernel) ?_
  refine bc_callN (index := 20) (As := []) (rest := [.ref q16, .ref h0]) B (ct_Night l G D q16) tbG_good (tb_m (i := 1) (j := 4) rfl rfl rfl) (nest_m (j := 2) rfl) (tb_m (i := 1) (j := 86) rfl rfl rfl) (tb_m (i := 1) (j := 87) rfl rfl rfl) rfl ⟨nh_3.1, nh_3.2, (show (parseMethodDescriptor "()V").map (fun d => d.parameters.length) = some 0 by decide +kernel)⟩ ⟨by decide, by decide⟩ (by decide) (by decide) hl.1 rfl (Nat.le_of_ble_eq_true rfl) (by decide +kernel) (fun u1 huu1 => ?_)
  have huu1 : u1 0 = q16 := huu1
  subst huu1
  refine bc_pf B hin cl0_ok (idx := 21) (ci := 10) (k := 1) (C := cn_10) (F := cf_10) (N := 6) (fs := [.ref (u0 0), .null, .null, .null, .int 0, .int 0]) (fs' := [.ref (u0 0), .ref (u1 0), .null, .null, .int 0, .int 0]) (ty := .object "SleptFor$Night") (v := .ref (u1 0)) rfl (by decide) ⟨rfl, rfl⟩ (tb_m (i := 1) (j := 162) rfl rfl rfl) rfl (cz_10 1 (by decide)) rfl rfl (Nat.le_of_ble_eq_true rfl) rfl (by decide +kernel) ?_
  refine bc_al B (k := 0) (i := 0) (lv_at hl 0 rfl) rfl (by decide +kernel) ?_
  refine bc_nw B cl0_ok (idx := 25) (ci := 8) (C := cn_8) (F := cf_8) (N := 3) (fs := [.null, .int 0, .int 0]) (ty := cy_8) rfl cz_8 (fun j hj => by rcases (show j = 0 ∨ j = 1 ∨ j = 2 by omega) with rfl | rfl | rfl <;> rfl) (tb_m (i := 1) (j := 140) rfl rfl rfl) (tb_m (i := 1) (j := 141) rfl rfl rfl) (tb_m (i := 1) (j := 5) rfl rfl rfl) (by decide) (by decide) (by decide +kernel) (fun q27 => ?_)
  refine bc_dup B rfl (by decide +kernel) ?_
  refine bc_callN (index := 27) (As := []) (rest := [.ref q27, .ref h0]) B (ct_Steps l G D q27) tbG_good (tb_m (i := 1) (j := 5) rfl rfl rfl) (nest_m (j := 3) rfl) (tb_m (i := 1) (j := 143) rfl rfl rfl) (tb_m (i := 1) (j := 144) rfl rfl rfl) rfl ⟨nh_8.1, nh_8.2, (show (parseMethodDescriptor "()V").map (fun d => d.parameters.length) = some 0 by decide +kernel)⟩ ⟨by decide, by decide⟩ (by decide) (by decide) hl.1 rfl (Nat.le_of_ble_eq_true rfl) (by decide +kernel) (fun u2 huu2 => ?_)
  have huu2 : u2 0 = q27 := huu2
  subst huu2
  refine bc_pf B hin cl0_ok (idx := 28) (ci := 10) (k := 2) (C := cn_10) (F := cf_10) (N := 6) (fs := [.ref (u0 0), .ref (u1 0), .null, .null, .int 0, .int 0]) (fs' := [.ref (u0 0), .ref (u1 0), .ref (u2 0), .null, .int 0, .int 0]) (ty := .object "SleptFor$Steps") (v := .ref (u2 0)) rfl (by decide) ⟨rfl, rfl⟩ (tb_m (i := 1) (j := 166) rfl rfl rfl) rfl (cz_10 2 (by decide)) rfl rfl (Nat.le_of_ble_eq_true rfl) rfl (by decide +kernel) ?_
  refine bc_al B (k := 0) (i := 0) (lv_at hl 0 rfl) rfl (by decide +kernel) ?_
  refine bc_sp B (n := 999) (v := nI 999) (by decide +kernel) (by decide +kernel) ?_
  refine bc_newI B (n := 999) (tb_m (i := 1) (j := 82) rfl rfl rfl) (by decide) (by decide) (by decide) (by decide +kernel) (fun q41 => ?_)
  refine bc_pf B hin cl0_ok (idx := 32) (ci := 10) (k := 3) (C := cn_10) (F := cf_10) (N := 6) (fs := [.ref (u0 0), .ref (u1 0), .ref (u2 0), .null, .int 0, .int 0]) (fs' := [.ref (u0 0), .ref (u1 0), .ref (u2 0), .ref q41, .int 0, .int 0]) (ty := .array .int) (v := .ref q41) rfl (by decide) ⟨rfl, rfl⟩ (tb_m (i := 1) (j := 168) rfl rfl rfl) rfl (cz_10 3 (by decide)) rfl rfl (Nat.le_of_ble_eq_true rfl) rfl (by decide +kernel) ?_
  refine bc_al B (k := 0) (i := 0) (lv_at hl 0 rfl) rfl (by decide +kernel) ?_
  refine bc_ic B (n := -1) (v := (-1)) (by decide +kernel) (by decide +kernel) ?_
  refine bc_pv B cl0_ok (idx := 36) (ci := 10) (k := 5) (C := cn_10) (F := cf_10) (N := 6) (fs := [.ref (u0 0), .ref (u1 0), .ref (u2 0), .ref q41, .int 0, .int 0]) (fs' := [.ref (u0 0), .ref (u1 0), .ref (u2 0), .ref q41, .int 0, .int (-1)]) (ty := .int) (v := .int (-1)) rfl (by decide) ⟨rfl, rfl⟩ (tb_m (i := 1) (j := 173) rfl rfl rfl) (cz_10 5 (by decide)) rfl rfl (Nat.le_of_ble_eq_true rfl) rfl (by decide +kernel) ?_
  refine bc_wd (k := 17) (n := 4284) (by decide) (by decide) ?_
  exact bc_ret B hr hlk (fun i => if i = 0 then h0 else if i < 8 then u0 (i - 1) else if i < 15 then u1 (i - 8) else if i < 17 then u2 (i - 15) else if i = 17 then q41 else 0) rfl rfl (by decide +kernel)
/-- Reader: its cells when it is made -/
def cw_Reader (G : Nat → ClassId) (u : Nat → Nat) (a1 : Nat) : va_W := (u 0, .inr (6, [.ref a1, .int 0, .int 0, .ref (u 1), .ref (u 2), .ref (u 3), .int 0, .int 0, .int 0, .int 0, .ref (u 4), .int (-1), .int (-1)])) :: (((([] ++ [((u 1), .inl (G 0, 301, .inl (fun _ => 0)))]) ++ [((u 2), .inl (G 0, 301, .inl (fun _ => 0)))]) ++ [((u 3), .inl (G 0, 301, .inl (fun _ => 0)))]) ++ cw_Text G (fun i => u (4 + i)))
set_option maxHeartbeats 4000000 in
set_option maxRecDepth 100000 in
theorem ct_Reader (l : Launch) (G : Nat → ClassId) (D : va_G) (h0 a1 : Nat) : bc_Met l D cl0 tbG G ⟨"SleptFor$Reader","<init>","([I)V"⟩ prog_8_method_1_code 2 2 10 1311 [.ref h0, .ref a1] [(h0, .inr (6, [.null, .int 0, .int 0, .null, .null, .null, .int 0, .int 0, .int 0, .int 0, .null, .int 0, .int 0]))] (fun u : Nat → Nat => u 0 = h0) (fun u => cw_Reader G u a1) := by
  refine bc_met pn_6 rfl (Nat.le_of_ble_eq_true rfl) (va_one _ _) (fun p e s m args below meth c sz ls hsz B hr hlk hin hl => ?_)
  have hl : lv_has ls 2 [(0, .ref h0), (1, .ref a1)] := hl
  refine bc_al B (k := 0) (i := 0) (lv_at hl 0 rfl) rfl (by decide +kernel) ?_
  refine bc_oi B (idx := 3) (tb_m (i := 1) (j := 196) rfl rfl rfl) (tb_m (i := 1) (j := 27) rfl rfl rfl) (tb_m (i := 1) (j := 28) rfl rfl rfl) hl.1 ⟨by decide, by decide⟩ (by decide +kernel) ?_
  refine bc_al B (k := 0) (i := 0) (lv_at hl 0 rfl) rfl (by decide +kernel) ?_
  refine bc_sp B (n := 301) (v := nI 301) (by decide +kernel) (by decide +kernel) ?_
  refine bc_newI B (n := 301) (tb_m (i := 1) (j := 82) rfl rfl rfl) (by decide) (by decide) (by decide) (by decide +kernel) (fun q8 => ?_)
  refine bc_pf B hin cl0_ok (idx := 9) (ci := 6) (k := 3) (C := cn_6) (F := cf_6) (N := 13) (fs := [.null, .int 0, .int 0, .null, .null, .null, .int 0, .int 0, .int 0, .int 0, .null, .int 0, .int 0]) (fs' := [.null, .int 0, .int 0, .ref q8, .null, .null, .int 0, .int 0, .int 0, .int 0, .null, .int 0, .int 0]) (ty := .array .int) (v := .ref q8) rfl (by decide) ⟨rfl, rfl⟩ (tb_m (i := 2) (j := 6) rfl rfl rfl) rfl (cz_6 3 (by decide)) rfl rfl (Nat.le_of_ble_eq_true rfl) rfl (by decide +kernel) ?_
  refine bc_al B (k := 0) (i := 0) (lv_at hl 0 rfl) rfl (by decide +kernel) ?_
  refine bc_sp B (n := 301) (v := nI 301) (by decide +kernel) (by decide +kernel) ?_
  refine bc_newI B (n := 301) (tb_m (i := 1) (j := 82) rfl rfl rfl) (by decide) (by decide) (by decide) (by decide +kernel) (fun q17 => ?_)
  refine bc_pf B hin cl0_ok (idx := 15) (ci := 6) (k := 4) (C := cn_6) (F := cf_6) (N := 13) (fs := [.null, .int 0, .int 0, .ref q8, .null, .null, .int 0, .int 0, .int 0, .int 0, .null, .int 0, .int 0]) (fs' := [.null, .int 0, .int 0, .ref q8, .ref q17, .null, .int 0, .int 0, .int 0, .int 0, .null, .int 0, .int 0]) (ty := .array .int) (v := .ref q17) rfl (by decide) ⟨rfl, rfl⟩ (tb_m (i := 2) (j := 7) rfl rfl rfl) rfl (cz_6 4 (by decide)) rfl rfl (Nat.le_of_ble_eq_true rfl) rfl (by decide +kernel) ?_
  refine bc_al B (k := 0) (i := 0) (lv_at hl 0 rfl) rfl (by decide +kernel) ?_
  refine bc_sp B (n := 301) (v := nI 301) (by decide +kernel) (by decide +kernel) ?_
  refine bc_newI B (n := 301) (tb_m (i := 1) (j := 82) rfl rfl rfl) (by decide) (by decide) (by decide) (by decide +kernel) (fun q26 => ?_)
  refine bc_pf B hin cl0_ok (idx := 18) (ci := 6) (k := 5) (C := cn_6) (F := cf_6) (N := 13) (fs := [.null, .int 0, .int 0, .ref q8, .ref q17, .null, .int 0, .int 0, .int 0, .int 0, .null, .int 0, .int 0]) (fs' := [.null, .int 0, .int 0, .ref q8, .ref q17, .ref q26, .int 0, .int 0, .int 0, .int 0, .null, .int 0, .int 0]) (ty := .array .int) (v := .ref q26) rfl (by decide) ⟨rfl, rfl⟩ (tb_m (i := 2) (j := 8) rfl rfl rfl) rfl (cz_6 5 (by decide)) rfl rfl (Nat.le_of_ble_eq_true rfl) rfl (by decide +kernel) ?_
  refine bc_al B (k := 0) (i := 0) (lv_at hl 0 rfl) rfl (by decide +kernel) ?_
  refine bc_nw B cl0_ok (idx := 21) (ci := 9) (C := cn_9) (F := cf_9) (N := 8) (fs := [.null, .null, .null, .null, .int 0, .null, .null, .int 0]) (ty := cy_9) rfl cz_9 (fun j hj => by rcases (show j = 0 ∨ j = 1 ∨ j = 2 ∨ j = 3 ∨ j = 4 ∨ j = 5 ∨ j = 6 ∨ j = 7 by omega) with rfl | rfl | rfl | rfl | rfl | rfl | rfl | rfl <;> rfl) (tb_m (i := 1) (j := 197) rfl rfl rfl) (tb_m (i := 1) (j := 198) rfl rfl rfl) (tb_m (i := 1) (j := 7) rfl rfl rfl) (by decide) (by decide) (by decide +kernel) (fun q32 => ?_)
  refine bc_dup B rfl (by decide +kernel) ?_
  refine bc_callN (index := 23) (As := []) (rest := [.ref q32, .ref h0]) B (ct_Text l G D q32) tbG_good (tb_m (i := 1) (j := 7) rfl rfl rfl) (nest_m (j := 4) rfl) (tb_m (i := 1) (j := 200) rfl rfl rfl) (tb_m (i := 1) (j := 201) rfl rfl rfl) rfl ⟨nh_9.1, nh_9.2, (show (parseMethodDescriptor "()V").map (fun d => d.parameters.length) = some 0 by decide +kernel)⟩ ⟨by decide, by decide⟩ (by decide) (by decide) hl.1 rfl (Nat.le_of_ble_eq_true rfl) (by decide +kernel) (fun u0 huu0 => ?_)
  have huu0 : u0 0 = q32 := huu0
  subst huu0
  refine bc_pf B hin cl0_ok (idx := 24) (ci := 6) (k := 10) (C := cn_6) (F := cf_6) (N := 13) (fs := [.null, .int 0, .int 0, .ref q8, .ref q17, .ref q26, .int 0, .int 0, .int 0, .int 0, .null, .int 0, .int 0]) (fs' := [.null, .int 0, .int 0, .ref q8, .ref q17, .ref q26, .int 0, .int 0, .int 0, .int 0, .ref (u0 0), .int 0, .int 0]) (ty := .object "SleptFor$Text") (v := .ref (u0 0)) rfl (by decide) ⟨rfl, rfl⟩ (tb_m (i := 2) (j := 13) rfl rfl rfl) rfl (cz_6 10 (by decide)) rfl rfl (Nat.le_of_ble_eq_true rfl) rfl (by decide +kernel) ?_
  refine bc_al B (k := 0) (i := 0) (lv_at hl 0 rfl) rfl (by decide +kernel) ?_
  refine bc_ic B (n := -1) (v := (-1)) (by decide +kernel) (by decide +kernel) ?_
  refine bc_pv B cl0_ok (idx := 28) (ci := 6) (k := 11) (C := cn_6) (F := cf_6) (N := 13) (fs := [.null, .int 0, .int 0, .ref q8, .ref q17, .ref q26, .int 0, .int 0, .int 0, .int 0, .ref (u0 0), .int 0, .int 0]) (fs' := [.null, .int 0, .int 0, .ref q8, .ref q17, .ref q26, .int 0, .int 0, .int 0, .int 0, .ref (u0 0), .int (-1), .int 0]) (ty := .int) (v := .int (-1)) rfl (by decide) ⟨rfl, rfl⟩ (tb_m (i := 2) (j := 15) rfl rfl rfl) (cz_6 11 (by decide)) rfl rfl (Nat.le_of_ble_eq_true rfl) rfl (by decide +kernel) ?_
  refine bc_al B (k := 0) (i := 0) (lv_at hl 0 rfl) rfl (by decide +kernel) ?_
  refine bc_ic B (n := -1) (v := (-1)) (by decide +kernel) (by decide +kernel) ?_
  refine bc_pv B cl0_ok (idx := 32) (ci := 6) (k := 12) (C := cn_6) (F := cf_6) (N := 13) (fs := [.null, .int 0, .int 0, .ref q8, .ref q17, .ref q26, .int 0, .int 0, .int 0, .int 0, .ref (u0 0), .int (-1), .int 0]) (fs' := [.null, .int 0, .int 0, .ref q8, .ref q17, .ref q26, .int 0, .int 0, .int 0, .int 0, .ref (u0 0), .int (-1), .int (-1)]) (ty := .int) (v := .int (-1)) rfl (by decide) ⟨rfl, rfl⟩ (tb_m (i := 2) (j := 17) rfl rfl rfl) (cz_6 12 (by decide)) rfl rfl (Nat.le_of_ble_eq_true rfl) rfl (by decide +kernel) ?_
  refine bc_al B (k := 0) (i := 0) (lv_at hl 0 rfl) rfl (by decide +kernel) ?_
  refine bc_al B (k := 1) (i := 1) (lv_at hl 1 rfl) rfl (by decide +kernel) ?_
  refine bc_pf B hin cl0_ok (idx := 35) (ci := 6) (k := 0) (C := cn_6) (F := cf_6) (N := 13) (fs := [.null, .int 0, .int 0, .ref q8, .ref q17, .ref q26, .int 0, .int 0, .int 0, .int 0, .ref (u0 0), .int (-1), .int (-1)]) (fs' := [.ref a1, .int 0, .int 0, .ref q8, .ref q17, .ref q26, .int 0, .int 0, .int 0, .int 0, .ref (u0 0), .int (-1), .int (-1)]) (ty := .array .int) (v := .ref a1) rfl (by decide) ⟨rfl, rfl⟩ (tb_m (i := 2) (j := 3) rfl rfl rfl) rfl (cz_6 0 (by decide)) rfl rfl (Nat.le_of_ble_eq_true rfl) rfl (by decide +kernel) ?_
  refine bc_wd (k := 10) (n := 1311) (by decide) (by decide) ?_
  exact bc_ret B hr hlk (fun i => if i = 0 then h0 else if i = 1 then q8 else if i = 2 then q17 else if i = 3 then q26 else if i < 11 then u0 (i - 4) else 0) rfl rfl (by decide +kernel)
/-- Laws: its cells when it is made -/
def cw_Laws (G : Nat → ClassId) (u : Nat → Nat) (a1 a2 : Nat) : va_W := (u 0, .inr (2, [.ref a1, .ref a2, .ref (u 1), .ref (u 2)])) :: (([] ++ [((u 1), .inl (G 0, 9, .inl (fun _ => 0)))]) ++ [((u 2), .inl (G 0, 64, .inl (fun _ => 0)))])
set_option maxHeartbeats 4000000 in
set_option maxRecDepth 100000 in
theorem ct_Laws (l : Launch) (G : Nat → ClassId) (D : va_G) (h0 a1 a2 : Nat) : bc_Met l D cl0 tbG G ⟨"SleptFor$Laws","<init>","(LSleptFor$Valley;[LSleptFor$Text;)V"⟩ prog_4_method_1_code 3 1 2 73 [.ref h0, .ref a1, .ref a2] [(h0, .inr (2, [.null, .null, .null, .null]))] (fun u : Nat → Nat => u 0 = h0) (fun u => cw_Laws G u a1 a2) := by
  refine bc_met pn_2 rfl (Nat.le_of_ble_eq_true rfl) (va_one _ _) (fun p e s m args below meth c sz ls hsz B hr hlk hin hl => ?_)
  have hl : lv_has ls 3 [(0, .ref h0), (1, .ref a1), (2, .ref a2)] := hl
  refine bc_al B (k := 0) (i := 0) (lv_at hl 0 rfl) rfl (by decide +kernel) ?_
  refine bc_oi B (idx := 3) (tb_m (i := 2) (j := 51) rfl rfl rfl) (tb_m (i := 1) (j := 27) rfl rfl rfl) (tb_m (i := 1) (j := 28) rfl rfl rfl) hl.1 ⟨by decide, by decide⟩ (by decide +kernel) ?_
  refine bc_al B (k := 0) (i := 0) (lv_at hl 0 rfl) rfl (by decide +kernel) ?_
  refine bc_bp B (n := 9) (v := nI 9) (by decide +kernel) (by decide +kernel) ?_
  refine bc_newI B (n := 9) (tb_m (i := 1) (j := 82) rfl rfl rfl) (by decide) (by decide) (by decide) (by decide +kernel) (fun q7 => ?_)
  refine bc_pf B hin cl0_ok (idx := 9) (ci := 2) (k := 2) (C := cn_2) (F := cf_2) (N := 4) (fs := [.null, .null, .null, .null]) (fs' := [.null, .null, .ref q7, .null]) (ty := .array .int) (v := .ref q7) rfl (by decide) ⟨rfl, rfl⟩ (tb_m (i := 2) (j := 54) rfl rfl rfl) rfl (cz_2 2 (by decide)) rfl rfl (Nat.le_of_ble_eq_true rfl) rfl (by decide +kernel) ?_
  refine bc_al B (k := 0) (i := 0) (lv_at hl 0 rfl) rfl (by decide +kernel) ?_
  refine bc_bp B (n := 64) (v := nI 64) (by decide +kernel) (by decide +kernel) ?_
  refine bc_newI B (n := 64) (tb_m (i := 1) (j := 82) rfl rfl rfl) (by decide) (by decide) (by decide) (by decide +kernel) (fun q15 => ?_)
  refine bc_pf B hin cl0_ok (idx := 15) (ci := 2) (k := 3) (C := cn_2) (F := cf_2) (N := 4) (fs := [.null, .null, .ref q7, .null]) (fs' := [.null, .null, .ref q7, .ref q15]) (ty := .array .int) (v := .ref q15) rfl (by decide) ⟨rfl, rfl⟩ (tb_m (i := 2) (j := 55) rfl rfl rfl) rfl (cz_2 3 (by decide)) rfl rfl (Nat.le_of_ble_eq_true rfl) rfl (by decide +kernel) ?_
  refine bc_al B (k := 0) (i := 0) (lv_at hl 0 rfl) rfl (by decide +kernel) ?_
  refine bc_al B (k := 1) (i := 1) (lv_at hl 1 rfl) rfl (by decide +kernel) ?_
  refine bc_pf B hin cl0_ok (idx := 18) (ci := 2) (k := 0) (C := cn_2) (F := cf_2) (N := 4) (fs := [.null, .null, .ref q7, .ref q15]) (fs' := [.ref a1, .null, .ref q7, .ref q15]) (ty := .object "SleptFor$Valley") (v := .ref a1) rfl (by decide) ⟨rfl, rfl⟩ (tb_m (i := 2) (j := 52) rfl rfl rfl) rfl (cz_2 0 (by decide)) rfl rfl (Nat.le_of_ble_eq_true rfl) rfl (by decide +kernel) ?_
  refine bc_al B (k := 0) (i := 0) (lv_at hl 0 rfl) rfl (by decide +kernel) ?_
  refine bc_al B (k := 2) (i := 2) (lv_at hl 2 rfl) rfl (by decide +kernel) ?_
  refine bc_pf B hin cl0_ok (idx := 22) (ci := 2) (k := 1) (C := cn_2) (F := cf_2) (N := 4) (fs := [.ref a1, .null, .ref q7, .ref q15]) (fs' := [.ref a1, .ref a2, .ref q7, .ref q15]) (ty := .array (.object "SleptFor$Text")) (v := .ref a2) rfl (by decide) ⟨rfl, rfl⟩ (tb_m (i := 2) (j := 53) rfl rfl rfl) rfl (cz_2 1 (by decide)) rfl rfl (Nat.le_of_ble_eq_true rfl) rfl (by decide +kernel) ?_
  refine bc_wd (k := 2) (n := 73) (by decide) (by decide) ?_
  exact bc_ret B hr hlk (fun i => if i = 0 then h0 else if i = 1 then q7 else if i = 2 then q15 else 0) rfl rfl (by decide +kernel)
/-- Clock: its cells when it is made -/
def cw_Clock (G : Nat → ClassId) (u : Nat → Nat) (a1 a2 : Nat) : va_W := (u 0, .inr (0, [.ref a1, .ref a2, .ref (u 1), .ref (u 2), .int 0, .int 0, .int 0])) :: (([] ++ [((u 1), .inl (G 0, 8, .inl (fun _ => 0)))]) ++ [((u 2), .inl (G 0, 8, .inl (fun _ => 0)))])
set_option maxHeartbeats 4000000 in
set_option maxRecDepth 100000 in
theorem ct_Clock (l : Launch) (G : Nat → ClassId) (D : va_G) (h0 a1 a2 : Nat) : bc_Met l D cl0 tbG G ⟨"SleptFor$Clock","<init>","(LSleptFor$Folk;LSleptFor$Laws;)V"⟩ prog_2_method_1_code 3 1 2 16 [.ref h0, .ref a1, .ref a2] [(h0, .inr (0, [.null, .null, .null, .null, .int 0, .int 0, .int 0]))] (fun u : Nat → Nat => u 0 = h0) (fun u => cw_Clock G u a1 a2) := by
  refine bc_met pn_0 rfl (Nat.le_of_ble_eq_true rfl) (va_one _ _) (fun p e s m args below meth c sz ls hsz B hr hlk hin hl => ?_)
  have hl : lv_has ls 3 [(0, .ref h0), (1, .ref a1), (2, .ref a2)] := hl
  refine bc_al B (k := 0) (i := 0) (lv_at hl 0 rfl) rfl (by decide +kernel) ?_
  refine bc_oi B (idx := 3) (tb_m (i := 2) (j := 70) rfl rfl rfl) (tb_m (i := 1) (j := 27) rfl rfl rfl) (tb_m (i := 1) (j := 28) rfl rfl rfl) hl.1 ⟨by decide, by decide⟩ (by decide +kernel) ?_
  refine bc_al B (k := 0) (i := 0) (lv_at hl 0 rfl) rfl (by decide +kernel) ?_
  refine bc_bp B (n := 8) (v := nI 8) (by decide +kernel) (by decide +kernel) ?_
  refine bc_newI B (n := 8) (tb_m (i := 1) (j := 82) rfl rfl rfl) (by decide) (by decide) (by decide) (by decide +kernel) (fun q7 => ?_)
  refine bc_pf B hin cl0_ok (idx := 9) (ci := 0) (k := 2) (C := cn_0) (F := cf_0) (N := 7) (fs := [.null, .null, .null, .null, .int 0, .int 0, .int 0]) (fs' := [.null, .null, .ref q7, .null, .int 0, .int 0, .int 0]) (ty := .array .int) (v := .ref q7) rfl (by decide) ⟨rfl, rfl⟩ (tb_m (i := 2) (j := 73) rfl rfl rfl) rfl (cz_0 2 (by decide)) rfl rfl (Nat.le_of_ble_eq_true rfl) rfl (by decide +kernel) ?_
  refine bc_al B (k := 0) (i := 0) (lv_at hl 0 rfl) rfl (by decide +kernel) ?_
  refine bc_bp B (n := 8) (v := nI 8) (by decide +kernel) (by decide +kernel) ?_
  refine bc_newI B (n := 8) (tb_m (i := 1) (j := 82) rfl rfl rfl) (by decide) (by decide) (by decide) (by decide +kernel) (fun q15 => ?_)
  refine bc_pf B hin cl0_ok (idx := 15) (ci := 0) (k := 3) (C := cn_0) (F := cf_0) (N := 7) (fs := [.null, .null, .ref q7, .null, .int 0, .int 0, .int 0]) (fs' := [.null, .null, .ref q7, .ref q15, .int 0, .int 0, .int 0]) (ty := .array .int) (v := .ref q15) rfl (by decide) ⟨rfl, rfl⟩ (tb_m (i := 2) (j := 74) rfl rfl rfl) rfl (cz_0 3 (by decide)) rfl rfl (Nat.le_of_ble_eq_true rfl) rfl (by decide +kernel) ?_
  refine bc_al B (k := 0) (i := 0) (lv_at hl 0 rfl) rfl (by decide +kernel) ?_
  refine bc_al B (k := 1) (i := 1) (lv_at hl 1 rfl) rfl (by decide +kernel) ?_
  refine bc_pf B hin cl0_ok (idx := 18) (ci := 0) (k := 0) (C := cn_0) (F := cf_0) (N := 7) (fs := [.null, .null, .ref q7, .ref q15, .int 0, .int 0, .int 0]) (fs' := [.ref a1, .null, .ref q7, .ref q15, .int 0, .int 0, .int 0]) (ty := .object "SleptFor$Folk") (v := .ref a1) rfl (by decide) ⟨rfl, rfl⟩ (tb_m (i := 2) (j := 71) rfl rfl rfl) rfl (cz_0 0 (by decide)) rfl rfl (Nat.le_of_ble_eq_true rfl) rfl (by decide +kernel) ?_
  refine bc_al B (k := 0) (i := 0) (lv_at hl 0 rfl) rfl (by decide +kernel) ?_
  refine bc_al B (k := 2) (i := 2) (lv_at hl 2 rfl) rfl (by decide +kernel) ?_
  refine bc_pf B hin cl0_ok (idx := 22) (ci := 0) (k := 1) (C := cn_0) (F := cf_0) (N := 7) (fs := [.ref a1, .null, .ref q7, .ref q15, .int 0, .int 0, .int 0]) (fs' := [.ref a1, .ref a2, .ref q7, .ref q15, .int 0, .int 0, .int 0]) (ty := .object "SleptFor$Laws") (v := .ref a2) rfl (by decide) ⟨rfl, rfl⟩ (tb_m (i := 2) (j := 72) rfl rfl rfl) rfl (cz_0 1 (by decide)) rfl rfl (Nat.le_of_ble_eq_true rfl) rfl (by decide +kernel) ?_
  refine bc_wd (k := 2) (n := 16) (by decide) (by decide) ?_
  exact bc_ret B hr hlk (fun i => if i = 0 then h0 else if i = 1 then q7 else if i = 2 then q15 else 0) rfl rfl (by decide +kernel)
/-- Pairing: its cells when it is made -/
def cw_Pairing (G : Nat → ClassId) (u : Nat → Nat) (a1 a2 : Nat) : va_W := (u 0, .inr (4, [.ref a1, .ref a2, .ref (u 1), .ref (u 2), .int 0, .int 0, .ref (u 3), .ref (u 4), .ref (u 5), .ref (u 6), .int 0, .ref (u 7), .ref (u 8), .ref (u 9), .int 0, .int 0])) :: ((((((((([] ++ [((u 1), .inl (G 0, 4, .inl (fun _ => 0)))]) ++ [((u 2), .inl (G 0, 6, .inl (fun _ => 0)))]) ++ [((u 3), .inl (G 0, 4, .inl (fun _ => 0)))]) ++ [((u 4), .inl (G 0, 24, .inl (fun _ => 0)))]) ++ [((u 5), .inl (G 0, 24, .inl (fun _ => 0)))]) ++ [((u 6), .inl (G 0, 28, .inl (fun _ => 0)))]) ++ [((u 7), .inl (G 0, 4, .inl (fun _ => 0)))]) ++ [((u 8), .inl (G 0, 6, .inl (fun _ => 0)))]) ++ [((u 9), .inl (G 0, 6, .inl (fun _ => 0)))])
set_option maxHeartbeats 4000000 in
set_option maxRecDepth 100000 in
theorem ct_Pairing (l : Launch) (G : Nat → ClassId) (D : va_G) (h0 a1 a2 : Nat) : bc_Met l D cl0 tbG G ⟨"SleptFor$Pairing","<init>","(LSleptFor$Valley;LSleptFor$Laws;)V"⟩ prog_6_method_1_code 3 1 9 106 [.ref h0, .ref a1, .ref a2] [(h0, .inr (4, [.null, .null, .null, .null, .int 0, .int 0, .null, .null, .null, .null, .int 0, .null, .null, .null, .int 0, .int 0]))] (fun u : Nat → Nat => u 0 = h0) (fun u => cw_Pairing G u a1 a2) := by
  refine bc_met pn_4 rfl (Nat.le_of_ble_eq_true rfl) (va_one _ _) (fun p e s m args below meth c sz ls hsz B hr hlk hin hl => ?_)
  have hl : lv_has ls 3 [(0, .ref h0), (1, .ref a1), (2, .ref a2)] := hl
  refine bc_al B (k := 0) (i := 0) (lv_at hl 0 rfl) rfl (by decide +kernel) ?_
  refine bc_oi B (idx := 3) (tb_m (i := 2) (j := 103) rfl rfl rfl) (tb_m (i := 1) (j := 27) rfl rfl rfl) (tb_m (i := 1) (j := 28) rfl rfl rfl) hl.1 ⟨by decide, by decide⟩ (by decide +kernel) ?_
  refine bc_al B (k := 0) (i := 0) (lv_at hl 0 rfl) rfl (by decide +kernel) ?_
  refine bc_ic B (n := 4) (v := nI 4) (by decide +kernel) (by decide +kernel) ?_
  refine bc_newI B (n := 4) (tb_m (i := 1) (j := 82) rfl rfl rfl) (by decide) (by decide) (by decide) (by decide +kernel) (fun q6 => ?_)
  refine bc_pf B hin cl0_ok (idx := 11) (ci := 4) (k := 2) (C := cn_4) (F := cf_4) (N := 16) (fs := [.null, .null, .null, .null, .int 0, .int 0, .null, .null, .null, .null, .int 0, .null, .null, .null, .int 0, .int 0]) (fs' := [.null, .null, .ref q6, .null, .int 0, .int 0, .null, .null, .null, .null, .int 0, .null, .null, .null, .int 0, .int 0]) (ty := .array .int) (v := .ref q6) rfl (by decide) ⟨rfl, rfl⟩ (tb_m (i := 2) (j := 106) rfl rfl rfl) rfl (cz_4 2 (by decide)) rfl rfl (Nat.le_of_ble_eq_true rfl) rfl (by decide +kernel) ?_
  refine bc_al B (k := 0) (i := 0) (lv_at hl 0 rfl) rfl (by decide +kernel) ?_
  refine bc_bp B (n := 6) (v := nI 6) (by decide +kernel) (by decide +kernel) ?_
  refine bc_newI B (n := 6) (tb_m (i := 1) (j := 82) rfl rfl rfl) (by decide) (by decide) (by decide) (by decide +kernel) (fun q14 => ?_)
  refine bc_pf B hin cl0_ok (idx := 15) (ci := 4) (k := 3) (C := cn_4) (F := cf_4) (N := 16) (fs := [.null, .null, .ref q6, .null, .int 0, .int 0, .null, .null, .null, .null, .int 0, .null, .null, .null, .int 0, .int 0]) (fs' := [.null, .null, .ref q6, .ref q14, .int 0, .int 0, .null, .null, .null, .null, .int 0, .null, .null, .null, .int 0, .int 0]) (ty := .array .int) (v := .ref q14) rfl (by decide) ⟨rfl, rfl⟩ (tb_m (i := 2) (j := 107) rfl rfl rfl) rfl (cz_4 3 (by decide)) rfl rfl (Nat.le_of_ble_eq_true rfl) rfl (by decide +kernel) ?_
  refine bc_al B (k := 0) (i := 0) (lv_at hl 0 rfl) rfl (by decide +kernel) ?_
  refine bc_ic B (n := 4) (v := nI 4) (by decide +kernel) (by decide +kernel) ?_
  refine bc_newI B (n := 4) (tb_m (i := 1) (j := 82) rfl rfl rfl) (by decide) (by decide) (by decide) (by decide +kernel) (fun q21 => ?_)
  refine bc_pf B hin cl0_ok (idx := 18) (ci := 4) (k := 6) (C := cn_4) (F := cf_4) (N := 16) (fs := [.null, .null, .ref q6, .ref q14, .int 0, .int 0, .null, .null, .null, .null, .int 0, .null, .null, .null, .int 0, .int 0]) (fs' := [.null, .null, .ref q6, .ref q14, .int 0, .int 0, .ref q21, .null, .null, .null, .int 0, .null, .null, .null, .int 0, .int 0]) (ty := .array .int) (v := .ref q21) rfl (by decide) ⟨rfl, rfl⟩ (tb_m (i := 2) (j := 110) rfl rfl rfl) rfl (cz_4 6 (by decide)) rfl rfl (Nat.le_of_ble_eq_true rfl) rfl (by decide +kernel) ?_
  refine bc_al B (k := 0) (i := 0) (lv_at hl 0 rfl) rfl (by decide +kernel) ?_
  refine bc_bp B (n := 24) (v := nI 24) (by decide +kernel) (by decide +kernel) ?_
  refine bc_newI B (n := 24) (tb_m (i := 1) (j := 82) rfl rfl rfl) (by decide) (by decide) (by decide) (by decide +kernel) (fun q29 => ?_)
  refine bc_pf B hin cl0_ok (idx := 21) (ci := 4) (k := 7) (C := cn_4) (F := cf_4) (N := 16) (fs := [.null, .null, .ref q6, .ref q14, .int 0, .int 0, .ref q21, .null, .null, .null, .int 0, .null, .null, .null, .int 0, .int 0]) (fs' := [.null, .null, .ref q6, .ref q14, .int 0, .int 0, .ref q21, .ref q29, .null, .null, .int 0, .null, .null, .null, .int 0, .int 0]) (ty := .array .int) (v := .ref q29) rfl (by decide) ⟨rfl, rfl⟩ (tb_m (i := 2) (j := 111) rfl rfl rfl) rfl (cz_4 7 (by decide)) rfl rfl (Nat.le_of_ble_eq_true rfl) rfl (by decide +kernel) ?_
  refine bc_al B (k := 0) (i := 0) (lv_at hl 0 rfl) rfl (by decide +kernel) ?_
  refine bc_bp B (n := 24) (v := nI 24) (by decide +kernel) (by decide +kernel) ?_
  refine bc_newI B (n := 24) (tb_m (i := 1) (j := 82) rfl rfl rfl) (by decide) (by decide) (by decide) (by decide +kernel) (fun q37 => ?_)
  refine bc_pf B hin cl0_ok (idx := 24) (ci := 4) (k := 8) (C := cn_4) (F := cf_4) (N := 16) (fs := [.null, .null, .ref q6, .ref q14, .int 0, .int 0, .ref q21, .ref q29, .null, .null, .int 0, .null, .null, .null, .int 0, .int 0]) (fs' := [.null, .null, .ref q6, .ref q14, .int 0, .int 0, .ref q21, .ref q29, .ref q37, .null, .int 0, .null, .null, .null, .int 0, .int 0]) (ty := .array .int) (v := .ref q37) rfl (by decide) ⟨rfl, rfl⟩ (tb_m (i := 2) (j := 112) rfl rfl rfl) rfl (cz_4 8 (by decide)) rfl rfl (Nat.le_of_ble_eq_true rfl) rfl (by decide +kernel) ?_
  refine bc_al B (k := 0) (i := 0) (lv_at hl 0 rfl) rfl (by decide +kernel) ?_
  refine bc_bp B (n := 28) (v := nI 28) (by decide +kernel) (by decide +kernel) ?_
  refine bc_newI B (n := 28) (tb_m (i := 1) (j := 82) rfl rfl rfl) (by decide) (by decide) (by decide) (by decide +kernel) (fun q45 => ?_)
  refine bc_pf B hin cl0_ok (idx := 27) (ci := 4) (k := 9) (C := cn_4) (F := cf_4) (N := 16) (fs := [.null, .null, .ref q6, .ref q14, .int 0, .int 0, .ref q21, .ref q29, .ref q37, .null, .int 0, .null, .null, .null, .int 0, .int 0]) (fs' := [.null, .null, .ref q6, .ref q14, .int 0, .int 0, .ref q21, .ref q29, .ref q37, .ref q45, .int 0, .null, .null, .null, .int 0, .int 0]) (ty := .array .int) (v := .ref q45) rfl (by decide) ⟨rfl, rfl⟩ (tb_m (i := 2) (j := 113) rfl rfl rfl) rfl (cz_4 9 (by decide)) rfl rfl (Nat.le_of_ble_eq_true rfl) rfl (by decide +kernel) ?_
  refine bc_al B (k := 0) (i := 0) (lv_at hl 0 rfl) rfl (by decide +kernel) ?_
  refine bc_ic B (n := 4) (v := nI 4) (by decide +kernel) (by decide +kernel) ?_
  refine bc_newI B (n := 4) (tb_m (i := 1) (j := 82) rfl rfl rfl) (by decide) (by decide) (by decide) (by decide +kernel) (fun q52 => ?_)
  refine bc_pf B hin cl0_ok (idx := 30) (ci := 4) (k := 11) (C := cn_4) (F := cf_4) (N := 16) (fs := [.null, .null, .ref q6, .ref q14, .int 0, .int 0, .ref q21, .ref q29, .ref q37, .ref q45, .int 0, .null, .null, .null, .int 0, .int 0]) (fs' := [.null, .null, .ref q6, .ref q14, .int 0, .int 0, .ref q21, .ref q29, .ref q37, .ref q45, .int 0, .ref q52, .null, .null, .int 0, .int 0]) (ty := .array .int) (v := .ref q52) rfl (by decide) ⟨rfl, rfl⟩ (tb_m (i := 2) (j := 115) rfl rfl rfl) rfl (cz_4 11 (by decide)) rfl rfl (Nat.le_of_ble_eq_true rfl) rfl (by decide +kernel) ?_
  refine bc_al B (k := 0) (i := 0) (lv_at hl 0 rfl) rfl (by decide +kernel) ?_
  refine bc_bp B (n := 6) (v := nI 6) (by decide +kernel) (by decide +kernel) ?_
  refine bc_newI B (n := 6) (tb_m (i := 1) (j := 82) rfl rfl rfl) (by decide) (by decide) (by decide) (by decide +kernel) (fun q60 => ?_)
  refine bc_pf B hin cl0_ok (idx := 33) (ci := 4) (k := 12) (C := cn_4) (F := cf_4) (N := 16) (fs := [.null, .null, .ref q6, .ref q14, .int 0, .int 0, .ref q21, .ref q29, .ref q37, .ref q45, .int 0, .ref q52, .null, .null, .int 0, .int 0]) (fs' := [.null, .null, .ref q6, .ref q14, .int 0, .int 0, .ref q21, .ref q29, .ref q37, .ref q45, .int 0, .ref q52, .ref q60, .null, .int 0, .int 0]) (ty := .array .int) (v := .ref q60) rfl (by decide) ⟨rfl, rfl⟩ (tb_m (i := 2) (j := 116) rfl rfl rfl) rfl (cz_4 12 (by decide)) rfl rfl (Nat.le_of_ble_eq_true rfl) rfl (by decide +kernel) ?_
  refine bc_al B (k := 0) (i := 0) (lv_at hl 0 rfl) rfl (by decide +kernel) ?_
  refine bc_bp B (n := 6) (v := nI 6) (by decide +kernel) (by decide +kernel) ?_
  refine bc_newI B (n := 6) (tb_m (i := 1) (j := 82) rfl rfl rfl) (by decide) (by decide) (by decide) (by decide +kernel) (fun q68 => ?_)
  refine bc_pf B hin cl0_ok (idx := 36) (ci := 4) (k := 13) (C := cn_4) (F := cf_4) (N := 16) (fs := [.null, .null, .ref q6, .ref q14, .int 0, .int 0, .ref q21, .ref q29, .ref q37, .ref q45, .int 0, .ref q52, .ref q60, .null, .int 0, .int 0]) (fs' := [.null, .null, .ref q6, .ref q14, .int 0, .int 0, .ref q21, .ref q29, .ref q37, .ref q45, .int 0, .ref q52, .ref q60, .ref q68, .int 0, .int 0]) (ty := .array .int) (v := .ref q68) rfl (by decide) ⟨rfl, rfl⟩ (tb_m (i := 2) (j := 117) rfl rfl rfl) rfl (cz_4 13 (by decide)) rfl rfl (Nat.le_of_ble_eq_true rfl) rfl (by decide +kernel) ?_
  refine bc_al B (k := 0) (i := 0) (lv_at hl 0 rfl) rfl (by decide +kernel) ?_
  refine bc_al B (k := 1) (i := 1) (lv_at hl 1 rfl) rfl (by decide +kernel) ?_
  refine bc_pf B hin cl0_ok (idx := 39) (ci := 4) (k := 0) (C := cn_4) (F := cf_4) (N := 16) (fs := [.null, .null, .ref q6, .ref q14, .int 0, .int 0, .ref q21, .ref q29, .ref q37, .ref q45, .int 0, .ref q52, .ref q60, .ref q68, .int 0, .int 0]) (fs' := [.ref a1, .null, .ref q6, .ref q14, .int 0, .int 0, .ref q21, .ref q29, .ref q37, .ref q45, .int 0, .ref q52, .ref q60, .ref q68, .int 0, .int 0]) (ty := .object "SleptFor$Valley") (v := .ref a1) rfl (by decide) ⟨rfl, rfl⟩ (tb_m (i := 2) (j := 104) rfl rfl rfl) rfl (cz_4 0 (by decide)) rfl rfl (Nat.le_of_ble_eq_true rfl) rfl (by decide +kernel) ?_
  refine bc_al B (k := 0) (i := 0) (lv_at hl 0 rfl) rfl (by decide +kernel) ?_
  refine bc_al B (k := 2) (i := 2) (lv_at hl 2 rfl) rfl (by decide +kernel) ?_
  refine bc_pf B hin cl0_ok (idx := 43) (ci := 4) (k := 1) (C := cn_4) (F := cf_4) (N := 16) (fs := [.ref a1, .null, .ref q6, .ref q14, .int 0, .int 0, .ref q21, .ref q29, .ref q37, .ref q45, .int 0, .ref q52, .ref q60, .ref q68, .int 0, .int 0]) (fs' := [.ref a1, .ref a2, .ref q6, .ref q14, .int 0, .int 0, .ref q21, .ref q29, .ref q37, .ref q45, .int 0, .ref q52, .ref q60, .ref q68, .int 0, .int 0]) (ty := .object "SleptFor$Laws") (v := .ref a2) rfl (by decide) ⟨rfl, rfl⟩ (tb_m (i := 2) (j := 105) rfl rfl rfl) rfl (cz_4 1 (by decide)) rfl rfl (Nat.le_of_ble_eq_true rfl) rfl (by decide +kernel) ?_
  refine bc_wd (k := 9) (n := 106) (by decide) (by decide) ?_
  exact bc_ret B hr hlk (fun i => if i = 0 then h0 else if i = 1 then q6 else if i = 2 then q14 else if i = 3 then q21 else if i = 4 then q29 else if i = 5 then q37 else if i = 6 then q45 else if i = 7 then q52 else if i = 8 then q60 else if i = 9 then q68 else 0) rfl rfl (by decide +kernel)
/-- Rota: its cells when it is made -/
def cw_Rota (G : Nat → ClassId) (u : Nat → Nat) : va_W := (u 0, .inr (7, [.int 0, .int 0, .int 0, .int 0, .ref (u 1), .ref (u 2), .ref (u 3), .int 0])) :: ((([] ++ [((u 1), .inl (G 0, 8, .inl (fun _ => 0)))]) ++ [((u 2), .inl (G 0, 8, .inl (fun _ => 0)))]) ++ [((u 3), .inl (G 0, 8, .inl (fun _ => 0)))])
set_option maxHeartbeats 4000000 in
set_option maxRecDepth 100000 in
theorem ct_Rota (l : Launch) (G : Nat → ClassId) (D : va_G) (h0 : Nat) : bc_Met l D cl0 tbG G ⟨"SleptFor$Rota","<init>","()V"⟩ prog_9_method_1_code 1 1 3 24 [.ref h0] [(h0, .inr (7, [.int 0, .int 0, .int 0, .int 0, .null, .null, .null, .int 0]))] (fun u : Nat → Nat => u 0 = h0) (fun u => cw_Rota G u) := by
  refine bc_met pn_7 rfl (Nat.le_of_ble_eq_true rfl) (va_one _ _) (fun p e s m args below meth c sz ls hsz B hr hlk hin hl => ?_)
  have hl : lv_has ls 1 [(0, .ref h0)] := hl
  refine bc_al B (k := 0) (i := 0) (lv_at hl 0 rfl) rfl (by decide +kernel) ?_
  refine bc_oi B (idx := 3) (tb_m (i := 2) (j := 159) rfl rfl rfl) (tb_m (i := 1) (j := 27) rfl rfl rfl) (tb_m (i := 1) (j := 28) rfl rfl rfl) hl.1 ⟨by decide, by decide⟩ (by decide +kernel) ?_
  refine bc_al B (k := 0) (i := 0) (lv_at hl 0 rfl) rfl (by decide +kernel) ?_
  refine bc_bp B (n := 8) (v := nI 8) (by decide +kernel) (by decide +kernel) ?_
  refine bc_newI B (n := 8) (tb_m (i := 1) (j := 82) rfl rfl rfl) (by decide) (by decide) (by decide) (by decide +kernel) (fun q7 => ?_)
  refine bc_pf B hin cl0_ok (idx := 9) (ci := 7) (k := 4) (C := cn_7) (F := cf_7) (N := 8) (fs := [.int 0, .int 0, .int 0, .int 0, .null, .null, .null, .int 0]) (fs' := [.int 0, .int 0, .int 0, .int 0, .ref q7, .null, .null, .int 0]) (ty := .array .int) (v := .ref q7) rfl (by decide) ⟨rfl, rfl⟩ (tb_m (i := 2) (j := 164) rfl rfl rfl) rfl (cz_7 4 (by decide)) rfl rfl (Nat.le_of_ble_eq_true rfl) rfl (by decide +kernel) ?_
  refine bc_al B (k := 0) (i := 0) (lv_at hl 0 rfl) rfl (by decide +kernel) ?_
  refine bc_bp B (n := 8) (v := nI 8) (by decide +kernel) (by decide +kernel) ?_
  refine bc_newI B (n := 8) (tb_m (i := 1) (j := 82) rfl rfl rfl) (by decide) (by decide) (by decide) (by decide +kernel) (fun q15 => ?_)
  refine bc_pf B hin cl0_ok (idx := 15) (ci := 7) (k := 5) (C := cn_7) (F := cf_7) (N := 8) (fs := [.int 0, .int 0, .int 0, .int 0, .ref q7, .null, .null, .int 0]) (fs' := [.int 0, .int 0, .int 0, .int 0, .ref q7, .ref q15, .null, .int 0]) (ty := .array .int) (v := .ref q15) rfl (by decide) ⟨rfl, rfl⟩ (tb_m (i := 2) (j := 165) rfl rfl rfl) rfl (cz_7 5 (by decide)) rfl rfl (Nat.le_of_ble_eq_true rfl) rfl (by decide +kernel) ?_
  refine bc_al B (k := 0) (i := 0) (lv_at hl 0 rfl) rfl (by decide +kernel) ?_
  refine bc_bp B (n := 8) (v := nI 8) (by decide +kernel) (by decide +kernel) ?_
  refine bc_newI B (n := 8) (tb_m (i := 1) (j := 82) rfl rfl rfl) (by decide) (by decide) (by decide) (by decide +kernel) (fun q23 => ?_)
  refine bc_pf B hin cl0_ok (idx := 18) (ci := 7) (k := 6) (C := cn_7) (F := cf_7) (N := 8) (fs := [.int 0, .int 0, .int 0, .int 0, .ref q7, .ref q15, .null, .int 0]) (fs' := [.int 0, .int 0, .int 0, .int 0, .ref q7, .ref q15, .ref q23, .int 0]) (ty := .array .int) (v := .ref q23) rfl (by decide) ⟨rfl, rfl⟩ (tb_m (i := 2) (j := 166) rfl rfl rfl) rfl (cz_7 6 (by decide)) rfl rfl (Nat.le_of_ble_eq_true rfl) rfl (by decide +kernel) ?_
  refine bc_wd (k := 3) (n := 24) (by decide) (by decide) ?_
  exact bc_ret B hr hlk (fun i => if i = 0 then h0 else if i = 1 then q7 else if i = 2 then q15 else if i = 3 then q23 else 0) rfl rfl (by decide +kernel)
/-- Questions: its cells when it is made -/
def cw_Questions (G : Nat → ClassId) (u : Nat → Nat) (a1 a2 a3 : Nat) : va_W := (u 0, .inr (5, [.ref a1, .ref a2, .ref a3, .ref (u 1), .ref (u 2), .ref (u 3)])) :: ((([] ++ [((u 1), .inl (G 0, 8, .inl (fun _ => 0)))]) ++ [((u 2), .inl (G 0, 8, .inl (fun _ => 0)))]) ++ [((u 3), .inl (G 0, 8, .inl (fun _ => 0)))])
set_option maxHeartbeats 4000000 in
set_option maxRecDepth 100000 in
theorem ct_Questions (l : Launch) (G : Nat → ClassId) (D : va_G) (h0 a1 a2 a3 : Nat) : bc_Met l D cl0 tbG G ⟨"SleptFor$Questions","<init>","(LSleptFor$Valley;LSleptFor$Laws;LSleptFor$Clock;)V"⟩ prog_7_method_1_code 4 1 3 24 [.ref h0, .ref a1, .ref a2, .ref a3] [(h0, .inr (5, [.null, .null, .null, .null, .null, .null]))] (fun u : Nat → Nat => u 0 = h0) (fun u => cw_Questions G u a1 a2 a3) := by
  refine bc_met pn_5 rfl (Nat.le_of_ble_eq_true rfl) (va_one _ _) (fun p e s m args below meth c sz ls hsz B hr hlk hin hl => ?_)
  have hl : lv_has ls 4 [(0, .ref h0), (1, .ref a1), (2, .ref a2), (3, .ref a3)] := hl
  refine bc_al B (k := 0) (i := 0) (lv_at hl 0 rfl) rfl (by decide +kernel) ?_
  refine bc_oi B (idx := 3) (tb_m (i := 2) (j := 191) rfl rfl rfl) (tb_m (i := 1) (j := 27) rfl rfl rfl) (tb_m (i := 1) (j := 28) rfl rfl rfl) hl.1 ⟨by decide, by decide⟩ (by decide +kernel) ?_
  refine bc_al B (k := 0) (i := 0) (lv_at hl 0 rfl) rfl (by decide +kernel) ?_
  refine bc_bp B (n := 8) (v := nI 8) (by decide +kernel) (by decide +kernel) ?_
  refine bc_newI B (n := 8) (tb_m (i := 1) (j := 82) rfl rfl rfl) (by decide) (by decide) (by decide) (by decide +kernel) (fun q7 => ?_)
  refine bc_pf B hin cl0_ok (idx := 9) (ci := 5) (k := 3) (C := cn_5) (F := cf_5) (N := 6) (fs := [.null, .null, .null, .null, .null, .null]) (fs' := [.null, .null, .null, .ref q7, .null, .null]) (ty := .array .int) (v := .ref q7) rfl (by decide) ⟨rfl, rfl⟩ (tb_m (i := 2) (j := 195) rfl rfl rfl) rfl (cz_5 3 (by decide)) rfl rfl (Nat.le_of_ble_eq_true rfl) rfl (by decide +kernel) ?_
  refine bc_al B (k := 0) (i := 0) (lv_at hl 0 rfl) rfl (by decide +kernel) ?_
  refine bc_bp B (n := 8) (v := nI 8) (by decide +kernel) (by decide +kernel) ?_
  refine bc_newI B (n := 8) (tb_m (i := 1) (j := 82) rfl rfl rfl) (by decide) (by decide) (by decide) (by decide +kernel) (fun q15 => ?_)
  refine bc_pf B hin cl0_ok (idx := 15) (ci := 5) (k := 4) (C := cn_5) (F := cf_5) (N := 6) (fs := [.null, .null, .null, .ref q7, .null, .null]) (fs' := [.null, .null, .null, .ref q7, .ref q15, .null]) (ty := .array .int) (v := .ref q15) rfl (by decide) ⟨rfl, rfl⟩ (tb_m (i := 2) (j := 196) rfl rfl rfl) rfl (cz_5 4 (by decide)) rfl rfl (Nat.le_of_ble_eq_true rfl) rfl (by decide +kernel) ?_
  refine bc_al B (k := 0) (i := 0) (lv_at hl 0 rfl) rfl (by decide +kernel) ?_
  refine bc_bp B (n := 8) (v := nI 8) (by decide +kernel) (by decide +kernel) ?_
  refine bc_newI B (n := 8) (tb_m (i := 1) (j := 82) rfl rfl rfl) (by decide) (by decide) (by decide) (by decide +kernel) (fun q23 => ?_)
  refine bc_pf B hin cl0_ok (idx := 18) (ci := 5) (k := 5) (C := cn_5) (F := cf_5) (N := 6) (fs := [.null, .null, .null, .ref q7, .ref q15, .null]) (fs' := [.null, .null, .null, .ref q7, .ref q15, .ref q23]) (ty := .array .int) (v := .ref q23) rfl (by decide) ⟨rfl, rfl⟩ (tb_m (i := 2) (j := 197) rfl rfl rfl) rfl (cz_5 5 (by decide)) rfl rfl (Nat.le_of_ble_eq_true rfl) rfl (by decide +kernel) ?_
  refine bc_al B (k := 0) (i := 0) (lv_at hl 0 rfl) rfl (by decide +kernel) ?_
  refine bc_al B (k := 1) (i := 1) (lv_at hl 1 rfl) rfl (by decide +kernel) ?_
  refine bc_pf B hin cl0_ok (idx := 21) (ci := 5) (k := 0) (C := cn_5) (F := cf_5) (N := 6) (fs := [.null, .null, .null, .ref q7, .ref q15, .ref q23]) (fs' := [.ref a1, .null, .null, .ref q7, .ref q15, .ref q23]) (ty := .object "SleptFor$Valley") (v := .ref a1) rfl (by decide) ⟨rfl, rfl⟩ (tb_m (i := 2) (j := 192) rfl rfl rfl) rfl (cz_5 0 (by decide)) rfl rfl (Nat.le_of_ble_eq_true rfl) rfl (by decide +kernel) ?_
  refine bc_al B (k := 0) (i := 0) (lv_at hl 0 rfl) rfl (by decide +kernel) ?_
  refine bc_al B (k := 2) (i := 2) (lv_at hl 2 rfl) rfl (by decide +kernel) ?_
  refine bc_pf B hin cl0_ok (idx := 25) (ci := 5) (k := 1) (C := cn_5) (F := cf_5) (N := 6) (fs := [.ref a1, .null, .null, .ref q7, .ref q15, .ref q23]) (fs' := [.ref a1, .ref a2, .null, .ref q7, .ref q15, .ref q23]) (ty := .object "SleptFor$Laws") (v := .ref a2) rfl (by decide) ⟨rfl, rfl⟩ (tb_m (i := 2) (j := 193) rfl rfl rfl) rfl (cz_5 1 (by decide)) rfl rfl (Nat.le_of_ble_eq_true rfl) rfl (by decide +kernel) ?_
  refine bc_al B (k := 0) (i := 0) (lv_at hl 0 rfl) rfl (by decide +kernel) ?_
  refine bc_al B (k := 3) (i := 3) (lv_at hl 3 rfl) rfl (by decide +kernel) ?_
  refine bc_pf B hin cl0_ok (idx := 29) (ci := 5) (k := 2) (C := cn_5) (F := cf_5) (N := 6) (fs := [.ref a1, .ref a2, .null, .ref q7, .ref q15, .ref q23]) (fs' := [.ref a1, .ref a2, .ref a3, .ref q7, .ref q15, .ref q23]) (ty := .object "SleptFor$Clock") (v := .ref a3) rfl (by decide) ⟨rfl, rfl⟩ (tb_m (i := 2) (j := 194) rfl rfl rfl) rfl (cz_5 2 (by decide)) rfl rfl (Nat.le_of_ble_eq_true rfl) rfl (by decide +kernel) ?_
  refine bc_wd (k := 3) (n := 24) (by decide) (by decide) ?_
  exact bc_ret B hr hlk (fun i => if i = 0 then h0 else if i = 1 then q7 else if i = 2 then q15 else if i = 3 then q23 else 0) rfl rfl (by decide +kernel)
/-- SleptFor: its cells when it is made -/
def cw_TopX (G : Nat → ClassId) (U : Nat → Nat → Nat) : va_W := ((U 0 0), .inr (11, [.ref ((U 1) 0), .ref ((U 2) 0), .ref (U 0 1), .ref (U 0 2), .int 0, .ref ((U 3) 0), .ref ((U 4) 0), .ref ((U 5) 0), .ref ((U 6) 0), .ref ((U 7) 0), .ref ((U 8) 0), .ref ((U 9) 0)])) :: (cw_Valley G (U 1) ++ cw_Valley G (U 2))
def cw_TopY (G : Nat → ClassId) (U : Nat → Nat → Nat) : va_W := [((U 0 2), .inl (G 0, 300, .inl (fun _ => 0)))] ++ (cw_Reader G (U 3) (U 0 2) ++ (cw_Laws G (U 4) ((U 1) 0) (U 0 1) ++ (cw_Clock G (U 5) ((U 1) 1) ((U 4) 0) ++ (cw_Night G (U 6) ++ (cw_Pairing G (U 7) ((U 1) 0) ((U 4) 0) ++ (cw_Rota G (U 8) ++ (cw_Questions G (U 9) ((U 1) 0) ((U 4) 0) ((U 5) 0))))))))
def cw_Top (G : Nat → ClassId) (U : Nat → Nat → Nat) : va_W := cw_TopX G U ++ (U 0 1, .inl (G 3, 4, .inr (.inr (.inr (.inr (va_up (va_up (va_up (va_up (fun _ => none) 0 (some (U 10 0))) 1 (some (U 11 0))) 2 (some (U 12 0))) 3 (some (U 13 0)))))))) :: ((((cw_TopY G U ++ cw_Text G (U 10)) ++ cw_Text G (U 11)) ++ cw_Text G (U 12)) ++ cw_Text G (U 13))
theorem ls_at {X : va_W} {y : Nat × va_E} {Z : va_W} : (X ++ y :: Z)[X.length]? = some y := by
  rw [List.getElem?_append_right (Nat.le_refl _), Nat.sub_self]; rfl
theorem ls_set {X : va_W} {y y' : Nat × va_E} {Z : va_W} : (X ++ y :: Z).set X.length y' = X ++ y' :: Z := by
  simp [List.set_append]
set_option maxHeartbeats 4000000 in
set_option maxRecDepth 100000 in
theorem ct_lp (l : Launch) {G : Nat → ClassId} {D : va_G} {A : Nat → Prop} {p : Program} {e : Env} {R : Room} {s : State} {m : MethodId} {args : Array Value} {below : List Frame} {meth : Method} {c : Code} {Q : State → Prop} {ls : Array Slot} {cs sl : Nat} (B : bc_At G D cl0 tbG A "SleptFor" prog_1_method_1_code 2 p s m args meth c) {h0 a i : Nat} {fs : List Value} {X Y : va_W} {f : Nat → Option Nat} (hl : lv_has ls 2 [(1, .int (nI i)), (0, .ref h0)]) (hi : i < 4) (hX : X[0]? = some (h0, .inr (11, fs))) (hfs : fs[2]? = some (.ref a)) (hR : 1 + 1 ≤ R.frames ∧ 8 + (1 + 11) + 60 * 1 ≤ R.locals) (hc : cs + 1 + 6 ≤ R.cells) (hs : sl + 8 + 400 ≤ R.slots)
    (kk : ∀ u ls', lv_has ls' 2 [(1, .int (nI (i + 1))), (0, .ref h0)] → bc_W D cl0 A p l e R s m args below meth c Q ls' (cs + 1 + 6) (sl + 8 + 400) (X ++ (a, .inl (G 3, 4, .inr (.inr (.inr (.inr (va_up f i (some (u 0)))))))) :: (Y ++ cw_Text G u)) 165 []) : bc_W D cl0 A p l e R s m args below meth c Q ls cs sl (X ++ (a, .inl (G 3, 4, .inr (.inr (.inr (.inr f))))) :: Y) 165 [] := by
  have hx : 0 < X.length := (List.getElem?_eq_some_iff.mp hX).1
  have e0 : ∀ Z, (X ++ Z)[0]? = some (h0, .inr (11, fs)) := fun Z => by rw [List.getElem?_append_left hx]; exact hX
  refine bc_il B (k := 1) (i := 1) (lv_at hl 0 rfl) rfl (by decide +kernel) ?_
  refine bc_al B (k := 0) (i := 0) (lv_at hl 1 rfl) rfl (by decide +kernel) ?_
  refine bc_gf B cl0_ok 0 (idx := 21) (ci := 11) (k := 2) (C := cn_11) (F := cf_11) (N := 12) (v := .ref a) (e0 _) rfl (by decide) rfl (tb_m (i := 2) (j := 214) rfl rfl rfl) hfs (by decide +kernel) ?_
  refine bc_len B X.length 3 ls_at rfl (by decide +kernel) ?_
  refine bc_ge B (off := 22) (tgt := 193) (by decide +kernel) rfl (fun z => absurd z (nI_ge hi (by decide))) (fun _ => ?_)
  refine bc_al B (k := 0) (i := 0) (lv_at hl 1 rfl) rfl (by decide +kernel) ?_
  refine bc_gf B cl0_ok 0 (idx := 21) (ci := 11) (k := 2) (C := cn_11) (F := cf_11) (N := 12) (v := .ref a) (e0 _) rfl (by decide) rfl (tb_m (i := 2) (j := 214) rfl rfl rfl) hfs (by decide +kernel) ?_
  refine bc_il B (k := 1) (i := 1) (lv_at hl 0 rfl) rfl (by decide +kernel) ?_
  refine bc_nw B cl0_ok (idx := 19) (ci := 9) (C := cn_9) (F := cf_9) (N := 8) (fs := [.null, .null, .null, .null, .int 0, .null, .null, .int 0]) (ty := cy_9) rfl cz_9 (fun j hj => by rcases (show j = 0 ∨ j = 1 ∨ j = 2 ∨ j = 3 ∨ j = 4 ∨ j = 5 ∨ j = 6 ∨ j = 7 by omega) with rfl | rfl | rfl | rfl | rfl | rfl | rfl | rfl <;> rfl) (tb_m (i := 1) (j := 189) rfl rfl rfl) (tb_m (i := 1) (j := 198) rfl rfl rfl) (tb_m (i := 1) (j := 7) rfl rfl rfl) (by omega) (by omega) (by decide +kernel) (fun q => ?_)
  refine bc_dup B rfl (by decide +kernel) ?_
  refine bc_callN (index := 92) (As := []) (rest := [.ref q, .int (nI i), .ref a]) B (ct_Text l G D q) tbG_good (tb_m (i := 1) (j := 7) rfl rfl rfl) (nest_m (j := 7) rfl) (tb_m (i := 1) (j := 200) rfl rfl rfl) (tb_m (i := 1) (j := 201) rfl rfl rfl) rfl ⟨nh_9.1, nh_9.2, (show (parseMethodDescriptor "()V").map (fun d => d.parameters.length) = some 0 by decide +kernel)⟩ hR hc hs hl.1 rfl (Nat.le_of_ble_eq_true rfl) (by decide +kernel) (fun u hu => ?_)
  have hu : u 0 = q := hu
  subst hu
  refine bc_aa B cl0_ok X.length (X ++ (a, .inl (G 3, 4, .inr (.inr (.inr (.inr f))))) :: Y).length (vs := [.ref (u 1), .ref (u 2), .ref (u 3), .ref (u 4), .int 0, .ref (u 5), .ref (u 6), .int 0]) (ci := 9) (i := i) (n := 4) (f := f) (F := cf_9) (N := 8) (ws' := X ++ (a, .inl (G 3, 4, .inr (.inr (.inr (.inr (va_up f i (some (u 0)))))))) :: (Y ++ cw_Text G u)) ?_ ?_ rfl hi (by decide) ?_ (by decide +kernel) ?_
  · rw [List.append_assoc, List.cons_append]; exact ls_at
  · exact ls_at
  · rw [List.append_assoc, List.cons_append]; exact ls_set
  refine bc_iinc B (i := 1) (n := 2) (k := 0) (z := 1) (x := nI i) (v := nI (i + 1)) (lv' := [(1, .int (nI (i + 1))), (0, .ref h0)]) (by decide +kernel) hl rfl (nI_1 i) (by decide) rfl (fun ls' hl' => ?_)
  exact bc_goto B (off := -25) (tgt := 165) (by decide +kernel) rfl (kk u ls' hl')
theorem ct_le {l : Launch} {G : Nat → ClassId} {D : va_G} {A : Nat → Prop} {p : Program} {e : Env} {R : Room} {s : State} {m : MethodId} {args : Array Value} {below : List Frame} {meth : Method} {c : Code} {Q : State → Prop} {ls : Array Slot} {cs sl : Nat} (B : bc_At G D cl0 tbG A "SleptFor" prog_1_method_1_code 2 p s m args meth c) {h0 a : Nat} {fs : List Value} {X Y : va_W} {f : Nat → Option Nat} (hl : lv_has ls 2 [(1, .int (nI 4)), (0, .ref h0)]) (hX : X[0]? = some (h0, .inr (11, fs))) (hfs : fs[2]? = some (.ref a)) (kk : bc_W D cl0 A p l e R s m args below meth c Q ls cs sl (X ++ (a, .inl (G 3, 4, .inr (.inr (.inr (.inr f))))) :: Y) 193 []) : bc_W D cl0 A p l e R s m args below meth c Q ls cs sl (X ++ (a, .inl (G 3, 4, .inr (.inr (.inr (.inr f))))) :: Y) 165 [] := by
  have hx : 0 < X.length := (List.getElem?_eq_some_iff.mp hX).1
  have e0 : ∀ Z, (X ++ Z)[0]? = some (h0, .inr (11, fs)) := fun Z => by rw [List.getElem?_append_left hx]; exact hX
  refine bc_il B (k := 1) (i := 1) (lv_at hl 0 rfl) rfl (by decide +kernel) ?_
  refine bc_al B (k := 0) (i := 0) (lv_at hl 1 rfl) rfl (by decide +kernel) ?_
  refine bc_gf B cl0_ok 0 (idx := 21) (ci := 11) (k := 2) (C := cn_11) (F := cf_11) (N := 12) (v := .ref a) (e0 _) rfl (by decide) rfl (tb_m (i := 2) (j := 214) rfl rfl rfl) hfs (by decide +kernel) ?_
  refine bc_len B X.length 3 ls_at rfl (by decide +kernel) ?_
  exact bc_ge B (off := 22) (tgt := 193) (by decide +kernel) rfl (fun _ => kk) (fun z => absurd (show nI 4 ≤ nI 4 by decide) z)
set_option maxHeartbeats 4000000 in
set_option maxRecDepth 100000 in
theorem ct_Top (l : Launch) (G : Nat → ClassId) (D : va_G) (h0 : Nat) : bc_Met l D cl0 tbG G ⟨"SleptFor","<init>","()V"⟩ prog_1_method_1_code 2 3 108 12234 [.ref h0] [(h0, .inr (11, [.null, .null, .null, .null, .int 0, .null, .null, .null, .null, .null, .null, .null]))] (fun U : Nat → Nat → Nat => U 0 0 = h0) (fun U => cw_Top G U) := by
  refine bc_met pn_11 rfl (Nat.le_of_ble_eq_true rfl) (va_one _ _) (fun p e s m args below meth c sz ls hsz B hr hlk hin hl => ?_)
  have hl : lv_has ls 2 [(0, .ref h0)] := hl
  refine bc_al B (k := 0) (i := 0) (lv_at hl 0 rfl) rfl (by decide +kernel) ?_
  refine bc_oi B (idx := 1) (tb_m (i := 1) (j := 26) rfl rfl rfl) (tb_m (i := 1) (j := 27) rfl rfl rfl) (tb_m (i := 1) (j := 28) rfl rfl rfl) hl.1 ⟨by decide, by decide⟩ (by decide +kernel) ?_
  refine bc_al B (k := 0) (i := 0) (lv_at hl 0 rfl) rfl (by decide +kernel) ?_
  refine bc_nw B cl0_ok (idx := 7) (ci := 10) (C := cn_10) (F := cf_10) (N := 6) (fs := [.null, .null, .null, .null, .int 0, .int 0]) (ty := cy_10) rfl cz_10 (fun j hj => by rcases (show j = 0 ∨ j = 1 ∨ j = 2 ∨ j = 3 ∨ j = 4 ∨ j = 5 by omega) with rfl | rfl | rfl | rfl | rfl | rfl <;> rfl) (tb_m (i := 1) (j := 29) rfl rfl rfl) (tb_m (i := 1) (j := 30) rfl rfl rfl) (tb_m (i := 1) (j := 2) rfl rfl rfl) (by decide) (by decide) (by decide +kernel) (fun q5 => ?_)
  refine bc_dup B rfl (by decide +kernel) ?_
  refine bc_callN (index := 9) (As := []) (rest := [.ref q5, .ref h0]) B (ct_Valley l G D q5) tbG_good (tb_m (i := 1) (j := 2) rfl rfl rfl) (nest_m (j := 0) rfl) (tb_m (i := 1) (j := 32) rfl rfl rfl) (tb_m (i := 1) (j := 33) rfl rfl rfl) rfl ⟨nh_10.1, nh_10.2, (show (parseMethodDescriptor "()V").map (fun d => d.parameters.length) = some 0 by decide +kernel)⟩ ⟨by decide, by decide⟩ (by decide) (by decide) hl.1 rfl (Nat.le_of_ble_eq_true rfl) (by decide +kernel) (fun u0 huu0 => ?_)
  have huu0 : u0 0 = q5 := huu0
  subst huu0
  refine bc_pf B hin cl0_ok (idx := 10) (ci := 11) (k := 0) (C := cn_11) (F := cf_11) (N := 12) (fs := [.null, .null, .null, .null, .int 0, .null, .null, .null, .null, .null, .null, .null]) (fs' := [.ref (u0 0), .null, .null, .null, .int 0, .null, .null, .null, .null, .null, .null, .null]) (ty := .object "SleptFor$Valley") (v := .ref (u0 0)) rfl (by decide) ⟨rfl, rfl⟩ (tb_m (i := 2) (j := 212) rfl rfl rfl) rfl (cz_11 0 (by decide)) rfl rfl (Nat.le_of_ble_eq_true rfl) rfl (by decide +kernel) ?_
  refine bc_al B (k := 0) (i := 0) (lv_at hl 0 rfl) rfl (by decide +kernel) ?_
  refine bc_nw B cl0_ok (idx := 7) (ci := 10) (C := cn_10) (F := cf_10) (N := 6) (fs := [.null, .null, .null, .null, .int 0, .int 0]) (ty := cy_10) rfl cz_10 (fun j hj => by rcases (show j = 0 ∨ j = 1 ∨ j = 2 ∨ j = 3 ∨ j = 4 ∨ j = 5 by omega) with rfl | rfl | rfl | rfl | rfl | rfl <;> rfl) (tb_m (i := 1) (j := 29) rfl rfl rfl) (tb_m (i := 1) (j := 30) rfl rfl rfl) (tb_m (i := 1) (j := 2) rfl rfl rfl) (by decide) (by decide) (by decide +kernel) (fun q16 => ?_)
  refine bc_dup B rfl (by decide +kernel) ?_
  refine bc_callN (index := 9) (As := []) (rest := [.ref q16, .ref h0]) B (ct_Valley l G D q16) tbG_good (tb_m (i := 1) (j := 2) rfl rfl rfl) (nest_m (j := 0) rfl) (tb_m (i := 1) (j := 32) rfl rfl rfl) (tb_m (i := 1) (j := 33) rfl rfl rfl) rfl ⟨nh_10.1, nh_10.2, (show (parseMethodDescriptor "()V").map (fun d => d.parameters.length) = some 0 by decide +kernel)⟩ ⟨by decide, by decide⟩ (by decide) (by decide) hl.1 rfl (Nat.le_of_ble_eq_true rfl) (by decide +kernel) (fun u1 huu1 => ?_)
  have huu1 : u1 0 = q16 := huu1
  subst huu1
  refine bc_pf B hin cl0_ok (idx := 16) (ci := 11) (k := 1) (C := cn_11) (F := cf_11) (N := 12) (fs := [.ref (u0 0), .null, .null, .null, .int 0, .null, .null, .null, .null, .null, .null, .null]) (fs' := [.ref (u0 0), .ref (u1 0), .null, .null, .int 0, .null, .null, .null, .null, .null, .null, .null]) (ty := .object "SleptFor$Valley") (v := .ref (u1 0)) rfl (by decide) ⟨rfl, rfl⟩ (tb_m (i := 2) (j := 213) rfl rfl rfl) rfl (cz_11 1 (by decide)) rfl rfl (Nat.le_of_ble_eq_true rfl) rfl (by decide +kernel) ?_
  refine bc_al B (k := 0) (i := 0) (lv_at hl 0 rfl) rfl (by decide +kernel) ?_
  refine bc_ic B (n := 4) (v := nI 4) (by decide +kernel) (by decide +kernel) ?_
  refine bc_newT B (n := 4) (index := 19) (tb_m (i := 1) (j := 189) rfl rfl rfl) (by decide) (by decide) (by decide) (by decide +kernel) (fun q28 => ?_)
  refine bc_pf B hin cl0_ok (idx := 21) (ci := 11) (k := 2) (C := cn_11) (F := cf_11) (N := 12) (fs := [.ref (u0 0), .ref (u1 0), .null, .null, .int 0, .null, .null, .null, .null, .null, .null, .null]) (fs' := [.ref (u0 0), .ref (u1 0), .ref q28, .null, .int 0, .null, .null, .null, .null, .null, .null, .null]) (ty := .array (.object "SleptFor$Text")) (v := .ref q28) rfl (by decide) ⟨rfl, rfl⟩ (tb_m (i := 2) (j := 214) rfl rfl rfl) rfl (cz_11 2 (by decide)) rfl rfl (Nat.le_of_ble_eq_true rfl) rfl (by decide +kernel) ?_
  refine bc_al B (k := 0) (i := 0) (lv_at hl 0 rfl) rfl (by decide +kernel) ?_
  refine bc_sp B (n := 300) (v := nI 300) (by decide +kernel) (by decide +kernel) ?_
  refine bc_newI B (n := 300) (tb_m (i := 1) (j := 82) rfl rfl rfl) (by decide) (by decide) (by decide) (by decide +kernel) (fun q38 => ?_)
  refine bc_pf B hin cl0_ok (idx := 25) (ci := 11) (k := 3) (C := cn_11) (F := cf_11) (N := 12) (fs := [.ref (u0 0), .ref (u1 0), .ref q28, .null, .int 0, .null, .null, .null, .null, .null, .null, .null]) (fs' := [.ref (u0 0), .ref (u1 0), .ref q28, .ref q38, .int 0, .null, .null, .null, .null, .null, .null, .null]) (ty := .array .int) (v := .ref q38) rfl (by decide) ⟨rfl, rfl⟩ (tb_m (i := 2) (j := 215) rfl rfl rfl) rfl (cz_11 3 (by decide)) rfl rfl (Nat.le_of_ble_eq_true rfl) rfl (by decide +kernel) ?_
  refine bc_al B (k := 0) (i := 0) (lv_at hl 0 rfl) rfl (by decide +kernel) ?_
  refine bc_nw B cl0_ok (idx := 29) (ci := 6) (C := cn_6) (F := cf_6) (N := 13) (fs := [.null, .int 0, .int 0, .null, .null, .null, .int 0, .int 0, .int 0, .int 0, .null, .int 0, .int 0]) (ty := cy_6) rfl cz_6 (fun j hj => by rcases (show j = 0 ∨ j = 1 ∨ j = 2 ∨ j = 3 ∨ j = 4 ∨ j = 5 ∨ j = 6 ∨ j = 7 ∨ j = 8 ∨ j = 9 ∨ j = 10 ∨ j = 11 ∨ j = 12 by omega) with rfl | rfl | rfl | rfl | rfl | rfl | rfl | rfl | rfl | rfl | rfl | rfl | rfl <;> rfl) (tb_m (i := 1) (j := 191) rfl rfl rfl) (tb_m (i := 1) (j := 192) rfl rfl rfl) (tb_m (i := 1) (j := 6) rfl rfl rfl) (by decide) (by decide) (by decide +kernel) (fun q44 => ?_)
  refine bc_dup B rfl (by decide +kernel) ?_
  refine bc_al B (k := 0) (i := 0) (lv_at hl 0 rfl) rfl (by decide +kernel) ?_
  refine bc_gf B cl0_ok 0 (idx := 25) (ci := 11) (k := 3) (C := cn_11) (F := cf_11) (N := 12) (fs := [.ref (u0 0), .ref (u1 0), .ref q28, .ref q38, .int 0, .null, .null, .null, .null, .null, .null, .null]) (v := .ref q38) rfl rfl (by decide) rfl (tb_m (i := 2) (j := 215) rfl rfl rfl) rfl (by decide +kernel) ?_
  refine bc_call (index := 31) (As := [.ref q38]) (rest := [.ref q44, .ref h0]) B (ct_Reader l G D q44 q38) tbG_good (tb_m (i := 1) (j := 6) rfl rfl rfl) (tb_m (i := 1) (j := 193) rfl rfl rfl) (tb_m (i := 1) (j := 194) rfl rfl rfl) (tb_m (i := 1) (j := 195) rfl rfl rfl) rfl ⟨nh_6.1, nh_6.2, (show (parseMethodDescriptor "([I)V").map (fun d => d.parameters.length) = some 1 by decide +kernel)⟩ ⟨by decide, by decide⟩ (by decide) (by decide) hl.1 rfl (Nat.le_of_ble_eq_true rfl) (by decide +kernel) (fun u2 huu2 => ?_)
  have huu2 : u2 0 = q44 := huu2
  subst huu2
  refine bc_pf B hin cl0_ok (idx := 34) (ci := 11) (k := 5) (C := cn_11) (F := cf_11) (N := 12) (fs := [.ref (u0 0), .ref (u1 0), .ref q28, .ref q38, .int 0, .null, .null, .null, .null, .null, .null, .null]) (fs' := [.ref (u0 0), .ref (u1 0), .ref q28, .ref q38, .int 0, .ref (u2 0), .null, .null, .null, .null, .null, .null]) (ty := .object "SleptFor$Reader") (v := .ref (u2 0)) rfl (by decide) ⟨rfl, rfl⟩ (tb_m (i := 2) (j := 217) rfl rfl rfl) rfl (cz_11 5 (by decide)) rfl rfl (Nat.le_of_ble_eq_true rfl) rfl (by decide +kernel) ?_
  refine bc_al B (k := 0) (i := 0) (lv_at hl 0 rfl) rfl (by decide +kernel) ?_
  refine bc_nw B cl0_ok (idx := 38) (ci := 2) (C := cn_2) (F := cf_2) (N := 4) (fs := [.null, .null, .null, .null]) (ty := cy_2) rfl cz_2 (fun j hj => by rcases (show j = 0 ∨ j = 1 ∨ j = 2 ∨ j = 3 by omega) with rfl | rfl | rfl | rfl <;> rfl) (tb_m (i := 2) (j := 46) rfl rfl rfl) (tb_m (i := 2) (j := 47) rfl rfl rfl) (tb_m (i := 1) (j := 8) rfl rfl rfl) (by decide) (by decide) (by decide +kernel) (fun q59 => ?_)
  refine bc_dup B rfl (by decide +kernel) ?_
  refine bc_al B (k := 0) (i := 0) (lv_at hl 0 rfl) rfl (by decide +kernel) ?_
  refine bc_gf B cl0_ok 0 (idx := 10) (ci := 11) (k := 0) (C := cn_11) (F := cf_11) (N := 12) (fs := [.ref (u0 0), .ref (u1 0), .ref q28, .ref q38, .int 0, .ref (u2 0), .null, .null, .null, .null, .null, .null]) (v := .ref (u0 0)) rfl rfl (by decide) rfl (tb_m (i := 2) (j := 212) rfl rfl rfl) rfl (by decide +kernel) ?_
  refine bc_al B (k := 0) (i := 0) (lv_at hl 0 rfl) rfl (by decide +kernel) ?_
  refine bc_gf B cl0_ok 0 (idx := 21) (ci := 11) (k := 2) (C := cn_11) (F := cf_11) (N := 12) (fs := [.ref (u0 0), .ref (u1 0), .ref q28, .ref q38, .int 0, .ref (u2 0), .null, .null, .null, .null, .null, .null]) (v := .ref q28) rfl rfl (by decide) rfl (tb_m (i := 2) (j := 214) rfl rfl rfl) rfl (by decide +kernel) ?_
  refine bc_call (index := 40) (As := [.ref (u0 0), .ref q28]) (rest := [.ref q59, .ref h0]) B (ct_Laws l G D q59 (u0 0) q28) tbG_good (tb_m (i := 1) (j := 8) rfl rfl rfl) (tb_m (i := 2) (j := 48) rfl rfl rfl) (tb_m (i := 2) (j := 49) rfl rfl rfl) (tb_m (i := 2) (j := 50) rfl rfl rfl) rfl ⟨nh_2.1, nh_2.2, (show (parseMethodDescriptor "(LSleptFor$Valley;[LSleptFor$Text;)V").map (fun d => d.parameters.length) = some 2 by decide +kernel)⟩ ⟨by decide, by decide⟩ (by decide) (by decide) hl.1 rfl (Nat.le_of_ble_eq_true rfl) (by decide +kernel) (fun u3 huu3 => ?_)
  have huu3 : u3 0 = q59 := huu3
  subst huu3
  refine bc_pf B hin cl0_ok (idx := 43) (ci := 11) (k := 6) (C := cn_11) (F := cf_11) (N := 12) (fs := [.ref (u0 0), .ref (u1 0), .ref q28, .ref q38, .int 0, .ref (u2 0), .null, .null, .null, .null, .null, .null]) (fs' := [.ref (u0 0), .ref (u1 0), .ref q28, .ref q38, .int 0, .ref (u2 0), .ref (u3 0), .null, .null, .null, .null, .null]) (ty := .object "SleptFor$Laws") (v := .ref (u3 0)) rfl (by decide) ⟨rfl, rfl⟩ (tb_m (i := 2) (j := 218) rfl rfl rfl) rfl (cz_11 6 (by decide)) rfl rfl (Nat.le_of_ble_eq_true rfl) rfl (by decide +kernel) ?_
  refine bc_al B (k := 0) (i := 0) (lv_at hl 0 rfl) rfl (by decide +kernel) ?_
  refine bc_nw B cl0_ok (idx := 47) (ci := 0) (C := cn_0) (F := cf_0) (N := 7) (fs := [.null, .null, .null, .null, .int 0, .int 0, .int 0]) (ty := cy_0) rfl cz_0 (fun j hj => by rcases (show j = 0 ∨ j = 1 ∨ j = 2 ∨ j = 3 ∨ j = 4 ∨ j = 5 ∨ j = 6 by omega) with rfl | rfl | rfl | rfl | rfl | rfl | rfl <;> rfl) (tb_m (i := 2) (j := 65) rfl rfl rfl) (tb_m (i := 2) (j := 66) rfl rfl rfl) (tb_m (i := 1) (j := 9) rfl rfl rfl) (by decide) (by decide) (by decide +kernel) (fun q78 => ?_)
  refine bc_dup B rfl (by decide +kernel) ?_
  refine bc_al B (k := 0) (i := 0) (lv_at hl 0 rfl) rfl (by decide +kernel) ?_
  refine bc_gf B cl0_ok 0 (idx := 10) (ci := 11) (k := 0) (C := cn_11) (F := cf_11) (N := 12) (fs := [.ref (u0 0), .ref (u1 0), .ref q28, .ref q38, .int 0, .ref (u2 0), .ref (u3 0), .null, .null, .null, .null, .null]) (v := .ref (u0 0)) rfl rfl (by decide) rfl (tb_m (i := 2) (j := 212) rfl rfl rfl) rfl (by decide +kernel) ?_
  refine bc_gf B cl0_ok 1 (idx := 49) (ci := 10) (k := 0) (C := cn_10) (F := cf_10) (N := 6) (fs := [.ref (u0 1), .ref (u0 8), .ref (u0 15), .ref (u0 17), .int 0, .int (-1)]) (v := .ref (u0 1)) rfl rfl (by decide) rfl (tb_m (i := 1) (j := 158) rfl rfl rfl) rfl (by decide +kernel) ?_
  refine bc_al B (k := 0) (i := 0) (lv_at hl 0 rfl) rfl (by decide +kernel) ?_
  refine bc_gf B cl0_ok 0 (idx := 43) (ci := 11) (k := 6) (C := cn_11) (F := cf_11) (N := 12) (fs := [.ref (u0 0), .ref (u1 0), .ref q28, .ref q38, .int 0, .ref (u2 0), .ref (u3 0), .null, .null, .null, .null, .null]) (v := .ref (u3 0)) rfl rfl (by decide) rfl (tb_m (i := 2) (j := 218) rfl rfl rfl) rfl (by decide +kernel) ?_
  refine bc_call (index := 53) (As := [.ref (u0 1), .ref (u3 0)]) (rest := [.ref q78, .ref h0]) B (ct_Clock l G D q78 (u0 1) (u3 0)) tbG_good (tb_m (i := 1) (j := 9) rfl rfl rfl) (tb_m (i := 2) (j := 67) rfl rfl rfl) (tb_m (i := 2) (j := 68) rfl rfl rfl) (tb_m (i := 2) (j := 69) rfl rfl rfl) rfl ⟨nh_0.1, nh_0.2, (show (parseMethodDescriptor "(LSleptFor$Folk;LSleptFor$Laws;)V").map (fun d => d.parameters.length) = some 2 by decide +kernel)⟩ ⟨by decide, by decide⟩ (by decide) (by decide) hl.1 rfl (Nat.le_of_ble_eq_true rfl) (by decide +kernel) (fun u4 huu4 => ?_)
  have huu4 : u4 0 = q78 := huu4
  subst huu4
  refine bc_pf B hin cl0_ok (idx := 56) (ci := 11) (k := 7) (C := cn_11) (F := cf_11) (N := 12) (fs := [.ref (u0 0), .ref (u1 0), .ref q28, .ref q38, .int 0, .ref (u2 0), .ref (u3 0), .null, .null, .null, .null, .null]) (fs' := [.ref (u0 0), .ref (u1 0), .ref q28, .ref q38, .int 0, .ref (u2 0), .ref (u3 0), .ref (u4 0), .null, .null, .null, .null]) (ty := .object "SleptFor$Clock") (v := .ref (u4 0)) rfl (by decide) ⟨rfl, rfl⟩ (tb_m (i := 2) (j := 219) rfl rfl rfl) rfl (cz_11 7 (by decide)) rfl rfl (Nat.le_of_ble_eq_true rfl) rfl (by decide +kernel) ?_
  refine bc_al B (k := 0) (i := 0) (lv_at hl 0 rfl) rfl (by decide +kernel) ?_
  refine bc_nw B cl0_ok (idx := 60) (ci := 3) (C := cn_3) (F := cf_3) (N := 8) (fs := [.null, .null, .null, .null, .null, .null, .int 0, .int 0]) (ty := cy_3) rfl cz_3 (fun j hj => by rcases (show j = 0 ∨ j = 1 ∨ j = 2 ∨ j = 3 ∨ j = 4 ∨ j = 5 ∨ j = 6 ∨ j = 7 by omega) with rfl | rfl | rfl | rfl | rfl | rfl | rfl | rfl <;> rfl) (tb_m (i := 2) (j := 96) rfl rfl rfl) (tb_m (i := 1) (j := 84) rfl rfl rfl) (tb_m (i := 1) (j := 4) rfl rfl rfl) (by decide) (by decide) (by decide +kernel) (fun q100 => ?_)
  refine bc_dup B rfl (by decide +kernel) ?_
  refine bc_callN (index := 62) (As := []) (rest := [.ref q100, .ref h0]) B (ct_Night l G D q100) tbG_good (tb_m (i := 1) (j := 4) rfl rfl rfl) (nest_m (j := 5) rfl) (tb_m (i := 1) (j := 86) rfl rfl rfl) (tb_m (i := 1) (j := 87) rfl rfl rfl) rfl ⟨nh_3.1, nh_3.2, (show (parseMethodDescriptor "()V").map (fun d => d.parameters.length) = some 0 by decide +kernel)⟩ ⟨by decide, by decide⟩ (by decide) (by decide) hl.1 rfl (Nat.le_of_ble_eq_true rfl) (by decide +kernel) (fun u5 huu5 => ?_)
  have huu5 : u5 0 = q100 := huu5
  subst huu5
  refine bc_pf B hin cl0_ok (idx := 63) (ci := 11) (k := 8) (C := cn_11) (F := cf_11) (N := 12) (fs := [.ref (u0 0), .ref (u1 0), .ref q28, .ref q38, .int 0, .ref (u2 0), .ref (u3 0), .ref (u4 0), .null, .null, .null, .null]) (fs' := [.ref (u0 0), .ref (u1 0), .ref q28, .ref q38, .int 0, .ref (u2 0), .ref (u3 0), .ref (u4 0), .ref (u5 0), .null, .null, .null]) (ty := .object "SleptFor$Night") (v := .ref (u5 0)) rfl (by decide) ⟨rfl, rfl⟩ (tb_m (i := 2) (j := 220) rfl rfl rfl) rfl (cz_11 8 (by decide)) rfl rfl (Nat.le_of_ble_eq_true rfl) rfl (by decide +kernel) ?_
  refine bc_al B (k := 0) (i := 0) (lv_at hl 0 rfl) rfl (by decide +kernel) ?_
  refine bc_nw B cl0_ok (idx := 67) (ci := 4) (C := cn_4) (F := cf_4) (N := 16) (fs := [.null, .null, .null, .null, .int 0, .int 0, .null, .null, .null, .null, .int 0, .null, .null, .null, .int 0, .int 0]) (ty := cy_4) rfl cz_4 (fun j hj => by rcases (show j = 0 ∨ j = 1 ∨ j = 2 ∨ j = 3 ∨ j = 4 ∨ j = 5 ∨ j = 6 ∨ j = 7 ∨ j = 8 ∨ j = 9 ∨ j = 10 ∨ j = 11 ∨ j = 12 ∨ j = 13 ∨ j = 14 ∨ j = 15 by omega) with rfl | rfl | rfl | rfl | rfl | rfl | rfl | rfl | rfl | rfl | rfl | rfl | rfl | rfl | rfl | rfl <;> rfl) (tb_m (i := 2) (j := 98) rfl rfl rfl) (tb_m (i := 2) (j := 99) rfl rfl rfl) (tb_m (i := 1) (j := 10) rfl rfl rfl) (by decide) (by decide) (by decide +kernel) (fun q111 => ?_)
  refine bc_dup B rfl (by decide +kernel) ?_
  refine bc_al B (k := 0) (i := 0) (lv_at hl 0 rfl) rfl (by decide +kernel) ?_
  refine bc_gf B cl0_ok 0 (idx := 10) (ci := 11) (k := 0) (C := cn_11) (F := cf_11) (N := 12) (fs := [.ref (u0 0), .ref (u1 0), .ref q28, .ref q38, .int 0, .ref (u2 0), .ref (u3 0), .ref (u4 0), .ref (u5 0), .null, .null, .null]) (v := .ref (u0 0)) rfl rfl (by decide) rfl (tb_m (i := 2) (j := 212) rfl rfl rfl) rfl (by decide +kernel) ?_
  refine bc_al B (k := 0) (i := 0) (lv_at hl 0 rfl) rfl (by decide +kernel) ?_
  refine bc_gf B cl0_ok 0 (idx := 43) (ci := 11) (k := 6) (C := cn_11) (F := cf_11) (N := 12) (fs := [.ref (u0 0), .ref (u1 0), .ref q28, .ref q38, .int 0, .ref (u2 0), .ref (u3 0), .ref (u4 0), .ref (u5 0), .null, .null, .null]) (v := .ref (u3 0)) rfl rfl (by decide) rfl (tb_m (i := 2) (j := 218) rfl rfl rfl) rfl (by decide +kernel) ?_
  refine bc_call (index := 69) (As := [.ref (u0 0), .ref (u3 0)]) (rest := [.ref q111, .ref h0]) B (ct_Pairing l G D q111 (u0 0) (u3 0)) tbG_good (tb_m (i := 1) (j := 10) rfl rfl rfl) (tb_m (i := 2) (j := 100) rfl rfl rfl) (tb_m (i := 2) (j := 101) rfl rfl rfl) (tb_m (i := 2) (j := 102) rfl rfl rfl) rfl ⟨nh_4.1, nh_4.2, (show (parseMethodDescriptor "(LSleptFor$Valley;LSleptFor$Laws;)V").map (fun d => d.parameters.length) = some 2 by decide +kernel)⟩ ⟨by decide, by decide⟩ (by decide) (by decide) hl.1 rfl (Nat.le_of_ble_eq_true rfl) (by decide +kernel) (fun u6 huu6 => ?_)
  have huu6 : u6 0 = q111 := huu6
  subst huu6
  refine bc_pf B hin cl0_ok (idx := 72) (ci := 11) (k := 9) (C := cn_11) (F := cf_11) (N := 12) (fs := [.ref (u0 0), .ref (u1 0), .ref q28, .ref q38, .int 0, .ref (u2 0), .ref (u3 0), .ref (u4 0), .ref (u5 0), .null, .null, .null]) (fs' := [.ref (u0 0), .ref (u1 0), .ref q28, .ref q38, .int 0, .ref (u2 0), .ref (u3 0), .ref (u4 0), .ref (u5 0), .ref (u6 0), .null, .null]) (ty := .object "SleptFor$Pairing") (v := .ref (u6 0)) rfl (by decide) ⟨rfl, rfl⟩ (tb_m (i := 2) (j := 221) rfl rfl rfl) rfl (cz_11 9 (by decide)) rfl rfl (Nat.le_of_ble_eq_true rfl) rfl (by decide +kernel) ?_
  refine bc_al B (k := 0) (i := 0) (lv_at hl 0 rfl) rfl (by decide +kernel) ?_
  refine bc_nw B cl0_ok (idx := 76) (ci := 7) (C := cn_7) (F := cf_7) (N := 8) (fs := [.int 0, .int 0, .int 0, .int 0, .null, .null, .null, .int 0]) (ty := cy_7) rfl cz_7 (fun j hj => by rcases (show j = 0 ∨ j = 1 ∨ j = 2 ∨ j = 3 ∨ j = 4 ∨ j = 5 ∨ j = 6 ∨ j = 7 by omega) with rfl | rfl | rfl | rfl | rfl | rfl | rfl | rfl <;> rfl) (tb_m (i := 2) (j := 154) rfl rfl rfl) (tb_m (i := 2) (j := 155) rfl rfl rfl) (tb_m (i := 1) (j := 11) rfl rfl rfl) (by decide) (by decide) (by decide +kernel) (fun q130 => ?_)
  refine bc_dup B rfl (by decide +kernel) ?_
  refine bc_callN (index := 78) (As := []) (rest := [.ref q130, .ref h0]) B (ct_Rota l G D q130) tbG_good (tb_m (i := 1) (j := 11) rfl rfl rfl) (nest_m (j := 6) rfl) (tb_m (i := 2) (j := 157) rfl rfl rfl) (tb_m (i := 2) (j := 158) rfl rfl rfl) rfl ⟨nh_7.1, nh_7.2, (show (parseMethodDescriptor "()V").map (fun d => d.parameters.length) = some 0 by decide +kernel)⟩ ⟨by decide, by decide⟩ (by decide) (by decide) hl.1 rfl (Nat.le_of_ble_eq_true rfl) (by decide +kernel) (fun u7 huu7 => ?_)
  have huu7 : u7 0 = q130 := huu7
  subst huu7
  refine bc_pf B hin cl0_ok (idx := 79) (ci := 11) (k := 10) (C := cn_11) (F := cf_11) (N := 12) (fs := [.ref (u0 0), .ref (u1 0), .ref q28, .ref q38, .int 0, .ref (u2 0), .ref (u3 0), .ref (u4 0), .ref (u5 0), .ref (u6 0), .null, .null]) (fs' := [.ref (u0 0), .ref (u1 0), .ref q28, .ref q38, .int 0, .ref (u2 0), .ref (u3 0), .ref (u4 0), .ref (u5 0), .ref (u6 0), .ref (u7 0), .null]) (ty := .object "SleptFor$Rota") (v := .ref (u7 0)) rfl (by decide) ⟨rfl, rfl⟩ (tb_m (i := 2) (j := 222) rfl rfl rfl) rfl (cz_11 10 (by decide)) rfl rfl (Nat.le_of_ble_eq_true rfl) rfl (by decide +kernel) ?_
  refine bc_al B (k := 0) (i := 0) (lv_at hl 0 rfl) rfl (by decide +kernel) ?_
  refine bc_nw B cl0_ok (idx := 83) (ci := 5) (C := cn_5) (F := cf_5) (N := 6) (fs := [.null, .null, .null, .null, .null, .null]) (ty := cy_5) rfl cz_5 (fun j hj => by rcases (show j = 0 ∨ j = 1 ∨ j = 2 ∨ j = 3 ∨ j = 4 ∨ j = 5 by omega) with rfl | rfl | rfl | rfl | rfl | rfl <;> rfl) (tb_m (i := 2) (j := 186) rfl rfl rfl) (tb_m (i := 2) (j := 187) rfl rfl rfl) (tb_m (i := 1) (j := 12) rfl rfl rfl) (by decide) (by decide) (by decide +kernel) (fun q141 => ?_)
  refine bc_dup B rfl (by decide +kernel) ?_
  refine bc_al B (k := 0) (i := 0) (lv_at hl 0 rfl) rfl (by decide +kernel) ?_
  refine bc_gf B cl0_ok 0 (idx := 10) (ci := 11) (k := 0) (C := cn_11) (F := cf_11) (N := 12) (fs := [.ref (u0 0), .ref (u1 0), .ref q28, .ref q38, .int 0, .ref (u2 0), .ref (u3 0), .ref (u4 0), .ref (u5 0), .ref (u6 0), .ref (u7 0), .null]) (v := .ref (u0 0)) rfl rfl (by decide) rfl (tb_m (i := 2) (j := 212) rfl rfl rfl) rfl (by decide +kernel) ?_
  refine bc_al B (k := 0) (i := 0) (lv_at hl 0 rfl) rfl (by decide +kernel) ?_
  refine bc_gf B cl0_ok 0 (idx := 43) (ci := 11) (k := 6) (C := cn_11) (F := cf_11) (N := 12) (fs := [.ref (u0 0), .ref (u1 0), .ref q28, .ref q38, .int 0, .ref (u2 0), .ref (u3 0), .ref (u4 0), .ref (u5 0), .ref (u6 0), .ref (u7 0), .null]) (v := .ref (u3 0)) rfl rfl (by decide) rfl (tb_m (i := 2) (j := 218) rfl rfl rfl) rfl (by decide +kernel) ?_
  refine bc_al B (k := 0) (i := 0) (lv_at hl 0 rfl) rfl (by decide +kernel) ?_
  refine bc_gf B cl0_ok 0 (idx := 56) (ci := 11) (k := 7) (C := cn_11) (F := cf_11) (N := 12) (fs := [.ref (u0 0), .ref (u1 0), .ref q28, .ref q38, .int 0, .ref (u2 0), .ref (u3 0), .ref (u4 0), .ref (u5 0), .ref (u6 0), .ref (u7 0), .null]) (v := .ref (u4 0)) rfl rfl (by decide) rfl (tb_m (i := 2) (j := 219) rfl rfl rfl) rfl (by decide +kernel) ?_
  refine bc_call (index := 85) (As := [.ref (u0 0), .ref (u3 0), .ref (u4 0)]) (rest := [.ref q141, .ref h0]) B (ct_Questions l G D q141 (u0 0) (u3 0) (u4 0)) tbG_good (tb_m (i := 1) (j := 12) rfl rfl rfl) (tb_m (i := 2) (j := 188) rfl rfl rfl) (tb_m (i := 2) (j := 189) rfl rfl rfl) (tb_m (i := 2) (j := 190) rfl rfl rfl) rfl ⟨nh_5.1, nh_5.2, (show (parseMethodDescriptor "(LSleptFor$Valley;LSleptFor$Laws;LSleptFor$Clock;)V").map (fun d => d.parameters.length) = some 3 by decide +kernel)⟩ ⟨by decide, by decide⟩ (by decide) (by decide) hl.1 rfl (Nat.le_of_ble_eq_true rfl) (by decide +kernel) (fun u8 huu8 => ?_)
  have huu8 : u8 0 = q141 := huu8
  subst huu8
  refine bc_pf B hin cl0_ok (idx := 88) (ci := 11) (k := 11) (C := cn_11) (F := cf_11) (N := 12) (fs := [.ref (u0 0), .ref (u1 0), .ref q28, .ref q38, .int 0, .ref (u2 0), .ref (u3 0), .ref (u4 0), .ref (u5 0), .ref (u6 0), .ref (u7 0), .null]) (fs' := [.ref (u0 0), .ref (u1 0), .ref q28, .ref q38, .int 0, .ref (u2 0), .ref (u3 0), .ref (u4 0), .ref (u5 0), .ref (u6 0), .ref (u7 0), .ref (u8 0)]) (ty := .object "SleptFor$Questions") (v := .ref (u8 0)) rfl (by decide) ⟨rfl, rfl⟩ (tb_m (i := 2) (j := 223) rfl rfl rfl) rfl (cz_11 11 (by decide)) rfl rfl (Nat.le_of_ble_eq_true rfl) rfl (by decide +kernel) ?_
  refine bc_ic B (n := 0) (v := nI 0) (by decide +kernel) (by decide +kernel) ?_
  refine bc_ist B (k := 1) (i := 1) (lv' := [(1, .int (nI 0)), (0, .ref h0)]) (by decide +kernel) rfl hl (by decide) rfl (fun ls1 hl1 => ?_)
  refine bc_eq (ws' := ((h0, .inr (11, [.ref (u0 0), .ref (u1 0), .ref q28, .ref q38, .int 0, .ref (u2 0), .ref (u3 0), .ref (u4 0), .ref (u5 0), .ref (u6 0), .ref (u7 0), .ref (u8 0)])) :: (cw_Valley G u0 ++ cw_Valley G u1)) ++ (q28, .inl (G 3, 4, .inr (.inr (.inr (.inr (fun _ => none)))))) :: ([(q38, .inl (G 0, 300, .inl (fun _ => 0)))] ++ (cw_Reader G u2 q38 ++ (cw_Laws G u3 (u0 0) q28 ++ (cw_Clock G u4 (u0 1) (u3 0) ++ (cw_Night G u5 ++ (cw_Pairing G u6 (u0 0) (u3 0) ++ (cw_Rota G u7 ++ (cw_Questions G u8 (u0 0) (u3 0) (u4 0)))))))))) (by simp only [List.append_eq, List.nil_append, List.append_assoc, List.cons_append, List.singleton_append]) ?_
  refine ct_lp l B hl1 (by decide) rfl rfl ⟨by decide, by decide⟩ (by decide) (by decide) (fun v0 ls2 hl2 => ?_)
  refine ct_lp l B hl2 (by decide) rfl rfl ⟨by decide, by decide⟩ (by decide) (by decide) (fun v1 ls3 hl3 => ?_)
  refine ct_lp l B hl3 (by decide) rfl rfl ⟨by decide, by decide⟩ (by decide) (by decide) (fun v2 ls4 hl4 => ?_)
  refine ct_lp l B hl4 (by decide) rfl rfl ⟨by decide, by decide⟩ (by decide) (by decide) (fun v3 ls5 hl5 => ?_)
  refine ct_le B hl5 rfl rfl ?_
  refine bc_wd (k := 108) (n := 12234) (by decide) (by decide) ?_
  exact bc_ret B hr hlk (fun i => ([fun j => ([h0, q28, q38] : List Nat).getD j 0, u0, u1, u2, u3, u4, u5, u6, u7, u8, v0, v1, v2, v3] : List (Nat → Nat)).getD i (fun _ => 0)) rfl rfl (by decide +kernel)
