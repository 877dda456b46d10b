/-! the helpers and the calls, by program -/
theorem zn3_1 : zW3.1 = 329 := by decide +kernel
theorem zn3_2 : zW3.2.1 = 2300586 := by decide +kernel
theorem zh_328z : zz_has zW3 328 (1, 3, 1, 0) := ⟨by decide +kernel, by decide, by decide +kernel⟩
theorem zi_lt (p : Int32) (c : Nat) (h : c < 2 ^ 31) : (p < Int32.ofNat c) ↔ p.toInt < c := by rw [Int32.lt_iff_toInt_lt, Int32.toInt_ofNat_of_lt h]
theorem zi_gt (p : Int32) (c : Nat) (h : c < 2 ^ 31) : (Int32.ofNat c < p) ↔ c < p.toInt := by rw [Int32.lt_iff_toInt_lt, Int32.toInt_ofNat_of_lt h]
theorem zi_le (p : Int32) (c : Nat) (h : c < 2 ^ 31) : (Int32.ofNat c ≤ p) ↔ c ≤ p.toInt := by rw [Int32.le_iff_toInt_le, Int32.toInt_ofNat_of_lt h]
theorem zi_ge (p : Int32) (c : Nat) (h : c < 2 ^ 31) : (p ≤ Int32.ofNat c) ↔ p.toInt ≤ c := by rw [Int32.le_iff_toInt_le, Int32.toInt_ofNat_of_lt h]
theorem zi_eq {p : Int32} {x : Int32} {c : Int} (e : x.toInt = c) (h : p.toInt = c) : p = x := Int32.toInt_inj.mp (h.trans e.symm)
theorem zi_m1 {p : Int32} (h : p.toInt < 0) : (Int32.ofNat 4294967295 - p).toInt = -1 - p.toInt := by
  have h1 := Int32.le_toInt p
  rw [Int32.toInt_sub, show (Int32.ofNat 4294967295).toInt = -1 by decide]
  exact Int.bmod_eq_of_le (by omega) (by omega)
theorem zi_s10 {p : Int32} (h : 10 ≤ p.toInt) : (p - Int32.ofNat 10).toInt = p.toInt - 10 := by
  have h1 := Int32.toInt_lt p
  rw [Int32.toInt_sub, show (Int32.ofNat 10).toInt = 10 by decide]
  exact Int.bmod_eq_of_le (by omega) (by omega)
theorem zi_nat {p : Int32} (h : 0 ≤ p.toInt) : p = Int32.ofNat p.toInt.toNat ∧ p.toInt.toNat < 2 ^ 31 := by
  have h1 := Int32.toInt_lt p
  have h2 : p.toInt.toNat < 2 ^ 31 := by omega
  refine ⟨Int32.toInt_inj.mp ?_, h2⟩
  rw [Int32.toInt_ofNat_of_lt h2]
  omega
theorem zR_3 : zR zW3 := ⟨zs3, Nat.le_of_eq zn3_1.symm, fun _ _ _ => rfl⟩
theorem zR_pu {ci : Nat} : zR (zz_pu zW3 (3, ci, 0, 0) 6) := ⟨zz_pu_sh zs3, (by show 329 ≤ zW3.1 + 1; rw [zn3_1]; decide), fun i h1 h2 => by rw [zz_pu_g zs3 (by rw [zn3_1]; decide), if_neg (by rw [zn3_1]; omega)]⟩
theorem zz_ls9 {N k : Nat} {x : Int64} : Int64.ofNat (zz_at 64 (zz_to 64 N k (zz_nL x)) k) = x := by
  rw [zz_at_to (zz_nL_lt x), if_pos rfl, zz_nL_of]
/-- the world behind out[0] = a -/
def zWo (w : zz_W) (N : Nat) (a : Int32) : zz_W := zz_up w 328 (1, 3, 1, zz_to 64 N (zz_nI (Int32.ofNat 0)) (zz_nL a.toInt64))
/-- a world that a call of the class leaves, if it returns -/
def zCl (w : zz_W) (N : Nat) : Prop := zR w ∧ zz_has w 328 (1, 3, 1, N) ∧ w.1 ≤ 330 ∧ w.2.1 ≤ 2300650
theorem zCl_R {w : zz_W} {N : Nat} {a : Int32} (h : zCl w N) : zR (zWo w N a) := by
  obtain ⟨⟨h1, h2, h3⟩, h4, h5⟩ := h
  exact ⟨zz_up_sh h1, h2, fun i a b => (zz_up_ne h1 (by decide) (by omega)).trans (h3 i a b)⟩
theorem zCl_3 : zCl zW3 0 := ⟨zR_3, zh_328z, by rw [zn3_1]; decide, by rw [zn3_2]; decide⟩
theorem zCl_c {w : zz_W} (hs : zz_sh w) (h1 : w.1 = 329) (h2 : w.2.1 = 2300586) (h : ∀ i, 171 ≤ i → i < 329 → zz_g w i = zz_g zW3 i) : zCl w 0 :=
  ⟨⟨hs, Nat.le_of_eq h1.symm, fun i a b => h i a (by omega)⟩, ⟨by rw [h1]; decide, by decide, (h 328 (by decide) (by decide)).trans zh_328z.2.2⟩, by rw [h1]; decide, by rw [h2]; decide⟩
theorem zCl_B {T : List Nat} {w : zz_W} (h : zB T w) : zCl w zc_328 := by
  obtain ⟨a, b, c, e⟩ := zB_R h
  exact ⟨a, b, c, by omega⟩
/-- what is so when class and reference have done a call -/
def zEnd (k b : Int32) (w1 w2 : zz_W) : Prop := zz_ic w1 171 0 = true ∧ (∃ M, zz_sh w2 ∧ zz_has w2 171 (3, 0, 243, M) ∧ Int32.ofNat (zz_at 64 M 0) = k) ∧ (k = 0 → ∃ N, zz_has w2 328 (1, 3, 1, N) ∧ Int64.ofNat (zz_at 64 N (zz_nI (Int32.ofNat 0))) = b.toInt64) ∧ w2.1 ≤ 331 ∧ w2.2.1 ≤ 2300700
theorem zE_x {ci t : Nat} {b : Int32} (h0 : ¬ Int32.ofNat t = 0) : zEnd (Int32.ofNat t) b (zz_pu zW3 (3, ci, 0, 0) 6) (zz_up (zz_pu zW3 (3, ci, 0, 0) 6) 171 (3, 0, 243, (zz_to 64 zc_171 0 (zz_nI (Int32.ofNat t))))) := by
  have hw := zR_pu (ci := ci)
  have h := zR_has hw zh_171 (by decide) (by decide)
  exact ⟨zz_has_c h, ⟨_, zz_up_sh hw.1, zz_has_up hw.1 h, zz_gs⟩, fun e => absurd e h0, by show zW3.1 + 1 ≤ 331; rw [zn3_1]; decide, by show zW3.2.1 + 6 ≤ 2300700; rw [zn3_2]; decide⟩
theorem zE_r {w w2 : zz_W} {N M : Nat} {a : Int32} (hc : zCl w N) (hs : zz_sh w2) (hM : zz_has w2 171 (3, 0, 243, M)) (h0 : zz_at 64 M 0 = 0) (hg : zz_g w2 328 = zz_g (zWo w N a) 328) (h1 : w2.1 = w.1) (h2 : w2.2.1 = w.2.1) : zEnd (Int32.ofNat 0) a (zWo w N a) w2 := by
  obtain ⟨⟨b1, b2, b3⟩, b4, b5, b6⟩ := hc
  refine ⟨zz_has_c (zR_has (zCl_R ⟨⟨b1, b2, b3⟩, b4, b5, b6⟩) zh_171 (by decide) (by decide)), ⟨M, hs, hM, by rw [h0]⟩, fun _ => ⟨_, ⟨by rw [h1]; omega, by decide, hg.trans (zz_up_at b1 (by decide))⟩, zz_ls9⟩, by omega, by omega⟩
theorem zE_u {w : zz_W} {N : Nat} {a : Int32} (hc : zCl w N) : zEnd (Int32.ofNat 0) a (zWo w N a) (zz_up (zWo w N a) 171 (3, 0, 243, (zz_to 64 zc_171 0 (zz_nI (Int32.ofNat 0))))) := by
  have hw := zCl_R (a := a) hc
  exact zE_r hc (zz_up_sh hw.1) (zz_has_up hw.1 (zR_has hw zh_171 (by decide) (by decide))) (zz_gs2 (by decide)) (zz_up_ne hw.1 (by decide) (by decide)) rfl rfl
theorem zE_P {w w2 : zz_W} {N n : Nat} {a : Int32} (hc : zCl w N) (h : zPr n (zWo w N a) w2) : zEnd (Int32.ofNat 0) a (zWo w N a) w2 := by
  obtain ⟨h1, h2, h3, h4, M, K, h5, h6, -⟩ := h
  exact zE_r hc h1 h5 h6 h4 h2 h3
theorem zE_Q {w w2 : zz_W} {N : Nat} {T : List Nat} {a : Int32} (hc : zCl w N) (h : zQ T (zWo w N a) w2) : zEnd (Int32.ofNat 0) a (zWo w N a) w2 := by
  obtain ⟨N1, M, r, -⟩ := h
  exact zE_r hc (zQr_sh r) (zQr_m r) (zQr_th r) r.2.2.2.2.2.2.2 r.2.1.2.1 r.2.1.2.2
theorem zt0_171 : zz_at 64 zc_171 0 = 0 := by decide +kernel
theorem zE_f {a : Int32} : zEnd (Int32.ofNat 0) a (zWO a) (zWO a) := by
  have hw := zCl_R (a := a) zCl_3
  exact zE_r (w := zW3) (N := 0) zCl_3 hw.1 (zR_has hw zh_171 (by decide) (by decide)) zt0_171 rfl rfl rfl
theorem zl_cmp (x : Int64) : lg_cmp x x = 0 := by
  unfold lg_cmp
  rw [if_neg (fun h : x > x => Int64.lt_irrefl h), if_pos rfl]
theorem zHc_800 {l : Launch} {D : va_G} {cy : Nat → ClassId} {z0 : Nat} {sp : Nat → Nat} {G : State → Prop} {d : Nat} (hG : zz_GF z0 G) (hP : ∀ U, G U → zz_GD zS zS2 zLg z0 sp U) {w : zz_W} {p0 : Int32} : zz_B l zTs D zcl zFK cy z0 sp (zTys cy) G "ToolMillLaw" "put" 4 method_3_code d (0, [(0, .ref 0), (1, .int p0), (2, .ref 328)], [], w) (4, [(0, .ref 0), (1, .int p0), (2, .ref 328)], [.int p0, .ref 0, .int (Int32.ofNat 0), .ref 328], w) := by
  have T := zt_800 (l := l) (D := D) (cy := cy) (z0 := z0) (sp := sp) (G := G) (d := d) zz_k0_KS hG hP
  have b := zz_B_rf (l := l) (Ts := zTs) (D := D) (cl := zcl) (fk := zFK) (cy := cy) (z0 := z0) (sp := sp) (tys := zTys cy) (G := G) (own := "ToolMillLaw") (mn := "put") (nL := 4) (cc := method_3_code) (d := d) ((0, [(0, .ref 0), (1, .int p0), (2, .ref 328)], [], w) : zz_F)
  replace b := zz_fw b T (rfl : zz_ent zP_800 0 = (0, za_aload 2 1)) (ze_aload rfl)
  replace b := zz_fw b T (rfl : zz_ent zP_800 1 = (0, za_const (.int (Int32.ofNat 0)) 2)) (ze_const)
  replace b := zz_fw b T (rfl : zz_ent zP_800 2 = (0, za_aload 0 3)) (ze_aload rfl)
  replace b := zz_fw b T (rfl : zz_ent zP_800 3 = (0, za_iload 1 4)) (ze_iload rfl)
  exact b
theorem zHr_800 {l : Launch} {D : va_G} {cy : Nat → ClassId} {z0 : Nat} {sp : Nat → Nat} {G : State → Prop} {d : Nat} (hG : zz_GF z0 G) (hP : ∀ U, G U → zz_GD zS zS2 zLg z0 sp U) {p0 : Int32} {w : zz_W} {a : Int32} {N : Nat} (hc : zCl w N) (hM : zz_M l zTs D zcl zFK cy z0 sp (zTys cy) G zYN zCN zMQ zRT d 8 [.ref 0, .int p0] zW3 [.int a] w) : zz_MH l zTs D zcl zFK cy z0 sp (zTys cy) G zy_800 method_3_code 4 (some .int) [(0, 9, 12, 13), (0, 9, 15, 15)] (d + 1) [.ref 0, .int p0, .ref 328] zW3 [.int (Int32.ofNat 0)] (zWo w N a) := by
  have T := zt_800 (l := l) (D := D) (cy := cy) (z0 := z0) (sp := sp) (G := G) (d := d) zz_k0_KS hG hP
  have TK := fun (K : zz_K) (h : zz_KS l D zcl zFK cy z0 sp (zTys cy) G zYN (fun y => Cond.code (zYN y) (zCN y) (zMQ y) (zRT y) :: zTs) d K) => zt_800 h hG hP
  have b := zHc_800 (d := d) (l := l) (D := D) (cy := cy) (sp := sp) (w := zW3) (p0 := p0) hG hP
  replace b := zz_fVi b TK (rfl : zz_ent zP_800 4 = (0, za_callV 1 8 1 7)) hM rfl rfl (zz_has_c zh_0) (zz_lb rfl)
  replace b := zz_fw b T (rfl : zz_ent zP_800 7 = (0, za_i2l 8)) (ze_i2l rfl)
  replace b := zz_fw b T (rfl : zz_ent zP_800 8 = (0, za_astL 3 9)) (ze_astL hc.1.1 hc.2.1 (by decide) (by decide))
  replace b := zz_fw b T (rfl : zz_ent zP_800 9 = (0, za_goto 18)) (ze_goto)
  replace b := zz_fw b T (rfl : zz_ent zP_800 18 = (0, za_const (.int (Int32.ofNat 0)) 19)) (ze_const)
  exact zz_MH_B rfl rfl (by decide +kernel) (zz_lb rfl) (zz_lb rfl) (zz_end_i zd_800_19) b
theorem zHx_800_1 {l : Launch} {D : va_G} {cy : Nat → ClassId} {z0 : Nat} {sp : Nat → Nat} {G : State → Prop} {d : Nat} (hG : zz_GF z0 G) (hP : ∀ U, G U → zz_GD zS zS2 zLg z0 sp U) (hE : ∀ U, G U → zGX z0 U) {p0 : Int32} {w' : zz_W} (hM : zz_MX l zTs D zcl zFK cy z0 sp (zTys cy) G zYN zCN zMQ zRT d 8 [.ref 0, .int p0] zW3 "java/lang/IllegalArgumentException" w') : zz_MH l zTs D zcl zFK cy z0 sp (zTys cy) G zy_800 method_3_code 4 (some .int) [(0, 9, 12, 13), (0, 9, 15, 15)] (d + 1) [.ref 0, .int p0, .ref 328] zW3 [.int (Int32.ofNat 1)] w' :=
  zhx_800_0 (as := [.ref 0, .int p0, .ref 328]) (bs := [.int p0]) (r := [.int (Int32.ofNat 0), .ref 328]) hG hE (zz_lb rfl) (zHc_800 (d := d) (l := l) (D := D) (cy := cy) (sp := sp) (w := zW3) (p0 := p0) hG hP) hM rfl (zz_has_c zh_0) (zz_lb rfl)
theorem zHc_801 {l : Launch} {D : va_G} {cy : Nat → ClassId} {z0 : Nat} {sp : Nat → Nat} {G : State → Prop} {d : Nat} (hG : zz_GF z0 G) (hP : ∀ U, G U → zz_GD zS zS2 zLg z0 sp U) {w : zz_W} {p0 : Int32} : zz_B l zTs D zcl zFK cy z0 sp (zTys cy) G "ToolMillLaw" "end" 3 method_4_code d (0, [(0, .ref 0), (1, .int p0)], [], w) (2, [(0, .ref 0), (1, .int p0)], [.int p0, .ref 0], w) := by
  have T := zt_801 (l := l) (D := D) (cy := cy) (z0 := z0) (sp := sp) (G := G) (d := d) zz_k0_KS hG hP
  have b := zz_B_rf (l := l) (Ts := zTs) (D := D) (cl := zcl) (fk := zFK) (cy := cy) (z0 := z0) (sp := sp) (tys := zTys cy) (G := G) (own := "ToolMillLaw") (mn := "end") (nL := 3) (cc := method_4_code) (d := d) ((0, [(0, .ref 0), (1, .int p0)], [], w) : zz_F)
  replace b := zz_fw b T (rfl : zz_ent zP_801 0 = (0, za_aload 0 1)) (ze_aload rfl)
  replace b := zz_fw b T (rfl : zz_ent zP_801 1 = (0, za_iload 1 2)) (ze_iload rfl)
  exact b
theorem zHr_801 {l : Launch} {D : va_G} {cy : Nat → ClassId} {z0 : Nat} {sp : Nat → Nat} {G : State → Prop} {d : Nat} (hG : zz_GF z0 G) (hP : ∀ U, G U → zz_GD zS zS2 zLg z0 sp U) {p0 : Int32} {w : zz_W} (hM : zz_M l zTs D zcl zFK cy z0 sp (zTys cy) G zYN zCN zMQ zRT d 9 [.ref 0, .int p0] zW3 [] w) : zz_MH l zTs D zcl zFK cy z0 sp (zTys cy) G zy_801 method_4_code 3 (some .int) [(0, 5, 8, 13)] (d + 1) [.ref 0, .int p0] zW3 [.int (Int32.ofNat 0)] w := by
  have T := zt_801 (l := l) (D := D) (cy := cy) (z0 := z0) (sp := sp) (G := G) (d := d) zz_k0_KS hG hP
  have TK := fun (K : zz_K) (h : zz_KS l D zcl zFK cy z0 sp (zTys cy) G zYN (fun y => Cond.code (zYN y) (zCN y) (zMQ y) (zRT y) :: zTs) d K) => zt_801 h hG hP
  have b := zHc_801 (d := d) (l := l) (D := D) (cy := cy) (sp := sp) (w := zW3) (p0 := p0) hG hP
  replace b := zz_fVv b TK (rfl : zz_ent zP_801 2 = (0, za_callV 1 9 1 5)) hM rfl rfl (zz_has_c zh_0) (zz_lb rfl)
  replace b := zz_fw b T (rfl : zz_ent zP_801 5 = (0, za_goto 11)) (ze_goto)
  replace b := zz_fw b T (rfl : zz_ent zP_801 11 = (0, za_const (.int (Int32.ofNat 0)) 12)) (ze_const)
  exact zz_MH_B rfl rfl (by decide +kernel) (zz_lb rfl) (zz_lb rfl) (zz_end_i zd_801_12) b
theorem zHx_801_1 {l : Launch} {D : va_G} {cy : Nat → ClassId} {z0 : Nat} {sp : Nat → Nat} {G : State → Prop} {d : Nat} (hG : zz_GF z0 G) (hP : ∀ U, G U → zz_GD zS zS2 zLg z0 sp U) (hE : ∀ U, G U → zGX z0 U) {p0 : Int32} {w' : zz_W} (hM : zz_MX l zTs D zcl zFK cy z0 sp (zTys cy) G zYN zCN zMQ zRT d 9 [.ref 0, .int p0] zW3 "java/lang/IllegalArgumentException" w') : zz_MH l zTs D zcl zFK cy z0 sp (zTys cy) G zy_801 method_4_code 3 (some .int) [(0, 5, 8, 13)] (d + 1) [.ref 0, .int p0] zW3 [.int (Int32.ofNat 1)] w' :=
  zhx_801_0 (as := [.ref 0, .int p0]) (bs := [.int p0]) (r := []) hG hE (zz_lb rfl) (zHc_801 (d := d) (l := l) (D := D) (cy := cy) (sp := sp) (w := zW3) (p0 := p0) hG hP) hM rfl (zz_has_c zh_0) (zz_lb rfl)
theorem zHc_802 {l : Launch} {D : va_G} {cy : Nat → ClassId} {z0 : Nat} {sp : Nat → Nat} {G : State → Prop} {d : Nat} (hG : zz_GF z0 G) (hP : ∀ U, G U → zz_GD zS zS2 zLg z0 sp U) {w : zz_W} : zz_B l zTs D zcl zFK cy z0 sp (zTys cy) G "ToolMillLaw" "source" 3 method_5_code d (0, [(0, .ref 0), (1, .ref 328)], [], w) (3, [(0, .ref 0), (1, .ref 328)], [.ref 0, .int (Int32.ofNat 0), .ref 328], w) := by
  have T := zt_802 (l := l) (D := D) (cy := cy) (z0 := z0) (sp := sp) (G := G) (d := d) zz_k0_KS hG hP
  have b := zz_B_rf (l := l) (Ts := zTs) (D := D) (cl := zcl) (fk := zFK) (cy := cy) (z0 := z0) (sp := sp) (tys := zTys cy) (G := G) (own := "ToolMillLaw") (mn := "source") (nL := 3) (cc := method_5_code) (d := d) ((0, [(0, .ref 0), (1, .ref 328)], [], w) : zz_F)
  replace b := zz_fw b T (rfl : zz_ent zP_802 0 = (0, za_aload 1 1)) (ze_aload rfl)
  replace b := zz_fw b T (rfl : zz_ent zP_802 1 = (0, za_const (.int (Int32.ofNat 0)) 2)) (ze_const)
  replace b := zz_fw b T (rfl : zz_ent zP_802 2 = (0, za_aload 0 3)) (ze_aload rfl)
  exact b
theorem zHr_802 {l : Launch} {D : va_G} {cy : Nat → ClassId} {z0 : Nat} {sp : Nat → Nat} {G : State → Prop} {d : Nat} (hG : zz_GF z0 G) (hP : ∀ U, G U → zz_GD zS zS2 zLg z0 sp U) {w : zz_W} {a : Int32} {N : Nat} (hc : zCl w N) (hM : zz_M l zTs D zcl zFK cy z0 sp (zTys cy) G zYN zCN zMQ zRT d 4 [.ref 0] zW3 [.int a] w) : zz_MH l zTs D zcl zFK cy z0 sp (zTys cy) G zy_802 method_5_code 3 (some .int) [(0, 8, 11, 25)] (d + 1) [.ref 0, .ref 328] zW3 [.int (Int32.ofNat 0)] (zWo w N a) := by
  have T := zt_802 (l := l) (D := D) (cy := cy) (z0 := z0) (sp := sp) (G := G) (d := d) zz_k0_KS hG hP
  have TK := fun (K : zz_K) (h : zz_KS l D zcl zFK cy z0 sp (zTys cy) G zYN (fun y => Cond.code (zYN y) (zCN y) (zMQ y) (zRT y) :: zTs) d K) => zt_802 h hG hP
  have b := zHc_802 (d := d) (l := l) (D := D) (cy := cy) (sp := sp) (w := zW3) hG hP
  replace b := zz_fVi b TK (rfl : zz_ent zP_802 3 = (0, za_callV 1 4 0 6)) hM rfl rfl (zz_has_c zh_0) (zz_lb rfl)
  replace b := zz_fw b T (rfl : zz_ent zP_802 6 = (0, za_i2l 7)) (ze_i2l rfl)
  replace b := zz_fw b T (rfl : zz_ent zP_802 7 = (0, za_astL 3 8)) (ze_astL hc.1.1 hc.2.1 (by decide) (by decide))
  replace b := zz_fw b T (rfl : zz_ent zP_802 8 = (0, za_goto 14)) (ze_goto)
  replace b := zz_fw b T (rfl : zz_ent zP_802 14 = (0, za_const (.int (Int32.ofNat 0)) 15)) (ze_const)
  exact zz_MH_B rfl rfl (by decide +kernel) (zz_lb rfl) (zz_lb rfl) (zz_end_i zd_802_15) b
theorem zHc_803 {l : Launch} {D : va_G} {cy : Nat → ClassId} {z0 : Nat} {sp : Nat → Nat} {G : State → Prop} {d : Nat} (hG : zz_GF z0 G) (hP : ∀ U, G U → zz_GD zS zS2 zLg z0 sp U) {w : zz_W} : zz_B l zTs D zcl zFK cy z0 sp (zTys cy) G "ToolMillLaw" "assemble" 3 method_6_code d (0, [(0, .ref 0), (1, .ref 328)], [], w) (3, [(0, .ref 0), (1, .ref 328)], [.ref 0, .int (Int32.ofNat 0), .ref 328], w) := by
  have T := zt_803 (l := l) (D := D) (cy := cy) (z0 := z0) (sp := sp) (G := G) (d := d) zz_k0_KS hG hP
  have b := zz_B_rf (l := l) (Ts := zTs) (D := D) (cl := zcl) (fk := zFK) (cy := cy) (z0 := z0) (sp := sp) (tys := zTys cy) (G := G) (own := "ToolMillLaw") (mn := "assemble") (nL := 3) (cc := method_6_code) (d := d) ((0, [(0, .ref 0), (1, .ref 328)], [], w) : zz_F)
  replace b := zz_fw b T (rfl : zz_ent zP_803 0 = (0, za_aload 1 1)) (ze_aload rfl)
  replace b := zz_fw b T (rfl : zz_ent zP_803 1 = (0, za_const (.int (Int32.ofNat 0)) 2)) (ze_const)
  replace b := zz_fw b T (rfl : zz_ent zP_803 2 = (0, za_aload 0 3)) (ze_aload rfl)
  exact b
theorem zHr_803 {l : Launch} {D : va_G} {cy : Nat → ClassId} {z0 : Nat} {sp : Nat → Nat} {G : State → Prop} {d : Nat} (hG : zz_GF z0 G) (hP : ∀ U, G U → zz_GD zS zS2 zLg z0 sp U) {w : zz_W} {a : Int32} {N : Nat} (hc : zCl w N) (hM : zz_M l zTs D zcl zFK cy z0 sp (zTys cy) G zYN zCN zMQ zRT d 6 [.ref 0] zW3 [.int a] w) : zz_MH l zTs D zcl zFK cy z0 sp (zTys cy) G zy_803 method_6_code 3 (some .int) [(0, 8, 11, 25)] (d + 1) [.ref 0, .ref 328] zW3 [.int (Int32.ofNat 0)] (zWo w N a) := by
  have T := zt_803 (l := l) (D := D) (cy := cy) (z0 := z0) (sp := sp) (G := G) (d := d) zz_k0_KS hG hP
  have TK := fun (K : zz_K) (h : zz_KS l D zcl zFK cy z0 sp (zTys cy) G zYN (fun y => Cond.code (zYN y) (zCN y) (zMQ y) (zRT y) :: zTs) d K) => zt_803 h hG hP
  have b := zHc_803 (d := d) (l := l) (D := D) (cy := cy) (sp := sp) (w := zW3) hG hP
  replace b := zz_fVi b TK (rfl : zz_ent zP_803 3 = (0, za_callV 1 6 0 6)) hM rfl rfl (zz_has_c zh_0) (zz_lb rfl)
  replace b := zz_fw b T (rfl : zz_ent zP_803 6 = (0, za_i2l 7)) (ze_i2l rfl)
  replace b := zz_fw b T (rfl : zz_ent zP_803 7 = (0, za_astL 3 8)) (ze_astL hc.1.1 hc.2.1 (by decide) (by decide))
  replace b := zz_fw b T (rfl : zz_ent zP_803 8 = (0, za_goto 14)) (ze_goto)
  replace b := zz_fw b T (rfl : zz_ent zP_803 14 = (0, za_const (.int (Int32.ofNat 0)) 15)) (ze_const)
  exact zz_MH_B rfl rfl (by decide +kernel) (zz_lb rfl) (zz_lb rfl) (zz_end_i zd_803_15) b
theorem zHc_804 {l : Launch} {D : va_G} {cy : Nat → ClassId} {z0 : Nat} {sp : Nat → Nat} {G : State → Prop} {d : Nat} (hG : zz_GF z0 G) (hP : ∀ U, G U → zz_GD zS zS2 zLg z0 sp U) {w : zz_W} {p0 : Int32} : zz_B l zTs D zcl zFK cy z0 sp (zTys cy) G "ToolMillLaw" "fault" 4 method_7_code d (0, [(0, .ref 0), (1, .int p0), (2, .ref 328)], [], w) (4, [(0, .ref 0), (1, .int p0), (2, .ref 328)], [.int p0, .ref 0, .int (Int32.ofNat 0), .ref 328], w) := by
  have T := zt_804 (l := l) (D := D) (cy := cy) (z0 := z0) (sp := sp) (G := G) (d := d) zz_k0_KS hG hP
  have b := zz_B_rf (l := l) (Ts := zTs) (D := D) (cl := zcl) (fk := zFK) (cy := cy) (z0 := z0) (sp := sp) (tys := zTys cy) (G := G) (own := "ToolMillLaw") (mn := "fault") (nL := 4) (cc := method_7_code) (d := d) ((0, [(0, .ref 0), (1, .int p0), (2, .ref 328)], [], w) : zz_F)
  replace b := zz_fw b T (rfl : zz_ent zP_804 0 = (0, za_aload 2 1)) (ze_aload rfl)
  replace b := zz_fw b T (rfl : zz_ent zP_804 1 = (0, za_const (.int (Int32.ofNat 0)) 2)) (ze_const)
  replace b := zz_fw b T (rfl : zz_ent zP_804 2 = (0, za_aload 0 3)) (ze_aload rfl)
  replace b := zz_fw b T (rfl : zz_ent zP_804 3 = (0, za_iload 1 4)) (ze_iload rfl)
  exact b
theorem zHr_804 {l : Launch} {D : va_G} {cy : Nat → ClassId} {z0 : Nat} {sp : Nat → Nat} {G : State → Prop} {d : Nat} (hG : zz_GF z0 G) (hP : ∀ U, G U → zz_GD zS zS2 zLg z0 sp U) {p0 : Int32} {w : zz_W} {a : Int32} {N : Nat} (hc : zCl w N) (hM : zz_M l zTs D zcl zFK cy z0 sp (zTys cy) G zYN zCN zMQ zRT d 10 [.ref 0, .int p0] zW3 [.int a] w) : zz_MH l zTs D zcl zFK cy z0 sp (zTys cy) G zy_804 method_7_code 4 (some .int) [(0, 9, 12, 13)] (d + 1) [.ref 0, .int p0, .ref 328] zW3 [.int (Int32.ofNat 0)] (zWo w N a) := by
  have T := zt_804 (l := l) (D := D) (cy := cy) (z0 := z0) (sp := sp) (G := G) (d := d) zz_k0_KS hG hP
  have TK := fun (K : zz_K) (h : zz_KS l D zcl zFK cy z0 sp (zTys cy) G zYN (fun y => Cond.code (zYN y) (zCN y) (zMQ y) (zRT y) :: zTs) d K) => zt_804 h hG hP
  have b := zHc_804 (d := d) (l := l) (D := D) (cy := cy) (sp := sp) (w := zW3) (p0 := p0) hG hP
  replace b := zz_fVi b TK (rfl : zz_ent zP_804 4 = (0, za_callV 1 10 1 7)) hM rfl rfl (zz_has_c zh_0) (zz_lb rfl)
  replace b := zz_fw b T (rfl : zz_ent zP_804 7 = (0, za_i2l 8)) (ze_i2l rfl)
  replace b := zz_fw b T (rfl : zz_ent zP_804 8 = (0, za_astL 3 9)) (ze_astL hc.1.1 hc.2.1 (by decide) (by decide))
  replace b := zz_fw b T (rfl : zz_ent zP_804 9 = (0, za_goto 15)) (ze_goto)
  replace b := zz_fw b T (rfl : zz_ent zP_804 15 = (0, za_const (.int (Int32.ofNat 0)) 16)) (ze_const)
  exact zz_MH_B rfl rfl (by decide +kernel) (zz_lb rfl) (zz_lb rfl) (zz_end_i zd_804_16) b
theorem zHx_804_1 {l : Launch} {D : va_G} {cy : Nat → ClassId} {z0 : Nat} {sp : Nat → Nat} {G : State → Prop} {d : Nat} (hG : zz_GF z0 G) (hP : ∀ U, G U → zz_GD zS zS2 zLg z0 sp U) (hE : ∀ U, G U → zGX z0 U) {p0 : Int32} {w' : zz_W} (hM : zz_MX l zTs D zcl zFK cy z0 sp (zTys cy) G zYN zCN zMQ zRT d 10 [.ref 0, .int p0] zW3 "java/lang/IllegalArgumentException" w') : zz_MH l zTs D zcl zFK cy z0 sp (zTys cy) G zy_804 method_7_code 4 (some .int) [(0, 9, 12, 13)] (d + 1) [.ref 0, .int p0, .ref 328] zW3 [.int (Int32.ofNat 1)] w' :=
  zhx_804_0 (as := [.ref 0, .int p0, .ref 328]) (bs := [.int p0]) (r := [.int (Int32.ofNat 0), .ref 328]) hG hE (zz_lb rfl) (zHc_804 (d := d) (l := l) (D := D) (cy := cy) (sp := sp) (w := zW3) (p0 := p0) hG hP) hM rfl (zz_has_c zh_0) (zz_lb rfl)
theorem zHc_805 {l : Launch} {D : va_G} {cy : Nat → ClassId} {z0 : Nat} {sp : Nat → Nat} {G : State → Prop} {d : Nat} (hG : zz_GF z0 G) (hP : ∀ U, G U → zz_GD zS zS2 zLg z0 sp U) {w : zz_W} {p0 : Int32} {p1 : Int32} : zz_B l zTs D zcl zFK cy z0 sp (zTys cy) G "ToolMillLaw" "typed" 5 method_8_code d (0, [(0, .ref 0), (1, .int p0), (2, .int p1), (3, .ref 328)], [], w) (5, [(0, .ref 0), (1, .int p0), (2, .int p1), (3, .ref 328)], [.int p1, .int p0, .ref 0, .int (Int32.ofNat 0), .ref 328], w) := by
  have T := zt_805 (l := l) (D := D) (cy := cy) (z0 := z0) (sp := sp) (G := G) (d := d) zz_k0_KS hG hP
  have b := zz_B_rf (l := l) (Ts := zTs) (D := D) (cl := zcl) (fk := zFK) (cy := cy) (z0 := z0) (sp := sp) (tys := zTys cy) (G := G) (own := "ToolMillLaw") (mn := "typed") (nL := 5) (cc := method_8_code) (d := d) ((0, [(0, .ref 0), (1, .int p0), (2, .int p1), (3, .ref 328)], [], w) : zz_F)
  replace b := zz_fw b T (rfl : zz_ent zP_805 0 = (0, za_aload 3 1)) (ze_aload rfl)
  replace b := zz_fw b T (rfl : zz_ent zP_805 1 = (0, za_const (.int (Int32.ofNat 0)) 2)) (ze_const)
  replace b := zz_fw b T (rfl : zz_ent zP_805 2 = (0, za_aload 0 3)) (ze_aload rfl)
  replace b := zz_fw b T (rfl : zz_ent zP_805 3 = (0, za_iload 1 4)) (ze_iload rfl)
  replace b := zz_fw b T (rfl : zz_ent zP_805 4 = (0, za_iload 2 5)) (ze_iload rfl)
  exact b
theorem zHx_805_1 {l : Launch} {D : va_G} {cy : Nat → ClassId} {z0 : Nat} {sp : Nat → Nat} {G : State → Prop} {d : Nat} (hG : zz_GF z0 G) (hP : ∀ U, G U → zz_GD zS zS2 zLg z0 sp U) (hE : ∀ U, G U → zGX z0 U) {p0 : Int32} {p1 : Int32} {w' : zz_W} (hM : zz_MX l zTs D zcl zFK cy z0 sp (zTys cy) G zYN zCN zMQ zRT d 11 [.ref 0, .int p0, .int p1] zW3 "java/util/NoSuchElementException" w') : zz_MH l zTs D zcl zFK cy z0 sp (zTys cy) G zy_805 method_8_code 5 (some .int) [(0, 10, 13, 37)] (d + 1) [.ref 0, .int p0, .int p1, .ref 328] zW3 [.int (Int32.ofNat 1)] w' :=
  zhx_805_0 (as := [.ref 0, .int p0, .int p1, .ref 328]) (bs := [.int p0, .int p1]) (r := [.int (Int32.ofNat 0), .ref 328]) hG hE (zz_lb rfl) (zHc_805 (d := d) (l := l) (D := D) (cy := cy) (sp := sp) (w := zW3) (p0 := p0) (p1 := p1) hG hP) hM rfl (zz_has_c zh_0) (zz_lb rfl)
theorem zHc_806 {l : Launch} {D : va_G} {cy : Nat → ClassId} {z0 : Nat} {sp : Nat → Nat} {G : State → Prop} {d : Nat} (hG : zz_GF z0 G) (hP : ∀ U, G U → zz_GD zS zS2 zLg z0 sp U) {w : zz_W} {p0 : Int32} {p1 : Int32} : zz_B l zTs D zcl zFK cy z0 sp (zTys cy) G "ToolMillLaw" "unit" 5 method_9_code d (0, [(0, .ref 0), (1, .int p0), (2, .int p1), (3, .ref 328)], [], w) (5, [(0, .ref 0), (1, .int p0), (2, .int p1), (3, .ref 328)], [.int p1, .int p0, .ref 0, .int (Int32.ofNat 0), .ref 328], w) := by
  have T := zt_806 (l := l) (D := D) (cy := cy) (z0 := z0) (sp := sp) (G := G) (d := d) zz_k0_KS hG hP
  have b := zz_B_rf (l := l) (Ts := zTs) (D := D) (cl := zcl) (fk := zFK) (cy := cy) (z0 := z0) (sp := sp) (tys := zTys cy) (G := G) (own := "ToolMillLaw") (mn := "unit") (nL := 5) (cc := method_9_code) (d := d) ((0, [(0, .ref 0), (1, .int p0), (2, .int p1), (3, .ref 328)], [], w) : zz_F)
  replace b := zz_fw b T (rfl : zz_ent zP_806 0 = (0, za_aload 3 1)) (ze_aload rfl)
  replace b := zz_fw b T (rfl : zz_ent zP_806 1 = (0, za_const (.int (Int32.ofNat 0)) 2)) (ze_const)
  replace b := zz_fw b T (rfl : zz_ent zP_806 2 = (0, za_aload 0 3)) (ze_aload rfl)
  replace b := zz_fw b T (rfl : zz_ent zP_806 3 = (0, za_iload 1 4)) (ze_iload rfl)
  replace b := zz_fw b T (rfl : zz_ent zP_806 4 = (0, za_iload 2 5)) (ze_iload rfl)
  exact b
theorem zHr_806 {l : Launch} {D : va_G} {cy : Nat → ClassId} {z0 : Nat} {sp : Nat → Nat} {G : State → Prop} {d : Nat} (hG : zz_GF z0 G) (hP : ∀ U, G U → zz_GD zS zS2 zLg z0 sp U) {p0 : Int32} {p1 : Int32} {w : zz_W} {a : Int32} {N : Nat} (hc : zCl w N) (hM : zz_M l zTs D zcl zFK cy z0 sp (zTys cy) G zYN zCN zMQ zRT d 12 [.ref 0, .int p0, .int p1] zW3 [.int a] w) : zz_MH l zTs D zcl zFK cy z0 sp (zTys cy) G zy_806 method_9_code 5 (some .int) [(0, 10, 13, 37), (0, 10, 17, 13)] (d + 1) [.ref 0, .int p0, .int p1, .ref 328] zW3 [.int (Int32.ofNat 0)] (zWo w N a) := by
  have T := zt_806 (l := l) (D := D) (cy := cy) (z0 := z0) (sp := sp) (G := G) (d := d) zz_k0_KS hG hP
  have TK := fun (K : zz_K) (h : zz_KS l D zcl zFK cy z0 sp (zTys cy) G zYN (fun y => Cond.code (zYN y) (zCN y) (zMQ y) (zRT y) :: zTs) d K) => zt_806 h hG hP
  have b := zHc_806 (d := d) (l := l) (D := D) (cy := cy) (sp := sp) (w := zW3) (p0 := p0) (p1 := p1) hG hP
  replace b := zz_fVi b TK (rfl : zz_ent zP_806 5 = (0, za_callV 1 12 2 8)) hM rfl rfl (zz_has_c zh_0) (zz_lb rfl)
  replace b := zz_fw b T (rfl : zz_ent zP_806 8 = (0, za_i2l 9)) (ze_i2l rfl)
  replace b := zz_fw b T (rfl : zz_ent zP_806 9 = (0, za_astL 3 10)) (ze_astL hc.1.1 hc.2.1 (by decide) (by decide))
  replace b := zz_fw b T (rfl : zz_ent zP_806 10 = (0, za_goto 21)) (ze_goto)
  replace b := zz_fw b T (rfl : zz_ent zP_806 21 = (0, za_const (.int (Int32.ofNat 0)) 22)) (ze_const)
  exact zz_MH_B rfl rfl (by decide +kernel) (zz_lb rfl) (zz_lb rfl) (zz_end_i zd_806_22) b
theorem zHx_806_2 {l : Launch} {D : va_G} {cy : Nat → ClassId} {z0 : Nat} {sp : Nat → Nat} {G : State → Prop} {d : Nat} (hG : zz_GF z0 G) (hP : ∀ U, G U → zz_GD zS zS2 zLg z0 sp U) (hE : ∀ U, G U → zGX z0 U) {p0 : Int32} {p1 : Int32} {w' : zz_W} (hM : zz_MX l zTs D zcl zFK cy z0 sp (zTys cy) G zYN zCN zMQ zRT d 12 [.ref 0, .int p0, .int p1] zW3 "java/lang/IllegalArgumentException" w') : zz_MH l zTs D zcl zFK cy z0 sp (zTys cy) G zy_806 method_9_code 5 (some .int) [(0, 10, 13, 37), (0, 10, 17, 13)] (d + 1) [.ref 0, .int p0, .int p1, .ref 328] zW3 [.int (Int32.ofNat 2)] w' :=
  zhx_806_1 (as := [.ref 0, .int p0, .int p1, .ref 328]) (bs := [.int p0, .int p1]) (r := [.int (Int32.ofNat 0), .ref 328]) hG hE (zz_lb rfl) (zHc_806 (d := d) (l := l) (D := D) (cy := cy) (sp := sp) (w := zW3) (p0 := p0) (p1 := p1) hG hP) hM rfl (zz_has_c zh_0) (zz_lb rfl)
theorem zHx_806_1 {l : Launch} {D : va_G} {cy : Nat → ClassId} {z0 : Nat} {sp : Nat → Nat} {G : State → Prop} {d : Nat} (hG : zz_GF z0 G) (hP : ∀ U, G U → zz_GD zS zS2 zLg z0 sp U) (hE : ∀ U, G U → zGX z0 U) {p0 : Int32} {p1 : Int32} {w' : zz_W} (hM : zz_MX l zTs D zcl zFK cy z0 sp (zTys cy) G zYN zCN zMQ zRT d 12 [.ref 0, .int p0, .int p1] zW3 "java/util/NoSuchElementException" w') : zz_MH l zTs D zcl zFK cy z0 sp (zTys cy) G zy_806 method_9_code 5 (some .int) [(0, 10, 13, 37), (0, 10, 17, 13)] (d + 1) [.ref 0, .int p0, .int p1, .ref 328] zW3 [.int (Int32.ofNat 1)] w' :=
  zhx_806_0 (as := [.ref 0, .int p0, .int p1, .ref 328]) (bs := [.int p0, .int p1]) (r := [.int (Int32.ofNat 0), .ref 328]) hG hE (zz_lb rfl) (zHc_806 (d := d) (l := l) (D := D) (cy := cy) (sp := sp) (w := zW3) (p0 := p0) (p1 := p1) hG hP) hM rfl (zz_has_c zh_0) (zz_lb rfl)
theorem zHc_807 {l : Launch} {D : va_G} {cy : Nat → ClassId} {z0 : Nat} {sp : Nat → Nat} {G : State → Prop} {d : Nat} (hG : zz_GF z0 G) (hP : ∀ U, G U → zz_GD zS zS2 zLg z0 sp U) {w : zz_W} {p0 : Int32} {p1 : Int32} {p2 : Int32} : zz_B l zTs D zcl zFK cy z0 sp (zTys cy) G "ToolMillLaw" "section" 6 method_10_code d (0, [(0, .ref 0), (1, .int p0), (2, .int p1), (3, .int p2), (4, .ref 328)], [], w) (7, [(0, .ref 0), (1, .int p0), (2, .int p1), (3, .int p2), (4, .ref 328)], [.int p2, .int p1, .int p0, .ref 0, .int (Int32.ofNat 0), .ref 328], w) := by
  have T := zt_807 (l := l) (D := D) (cy := cy) (z0 := z0) (sp := sp) (G := G) (d := d) zz_k0_KS hG hP
  have b := zz_B_rf (l := l) (Ts := zTs) (D := D) (cl := zcl) (fk := zFK) (cy := cy) (z0 := z0) (sp := sp) (tys := zTys cy) (G := G) (own := "ToolMillLaw") (mn := "section") (nL := 6) (cc := method_10_code) (d := d) ((0, [(0, .ref 0), (1, .int p0), (2, .int p1), (3, .int p2), (4, .ref 328)], [], w) : zz_F)
  replace b := zz_fw b T (rfl : zz_ent zP_807 0 = (0, za_aload 4 2)) (ze_aload rfl)
  replace b := zz_fw b T (rfl : zz_ent zP_807 2 = (0, za_const (.int (Int32.ofNat 0)) 3)) (ze_const)
  replace b := zz_fw b T (rfl : zz_ent zP_807 3 = (0, za_aload 0 4)) (ze_aload rfl)
  replace b := zz_fw b T (rfl : zz_ent zP_807 4 = (0, za_iload 1 5)) (ze_iload rfl)
  replace b := zz_fw b T (rfl : zz_ent zP_807 5 = (0, za_iload 2 6)) (ze_iload rfl)
  replace b := zz_fw b T (rfl : zz_ent zP_807 6 = (0, za_iload 3 7)) (ze_iload rfl)
  exact b
theorem zHr_807 {l : Launch} {D : va_G} {cy : Nat → ClassId} {z0 : Nat} {sp : Nat → Nat} {G : State → Prop} {d : Nat} (hG : zz_GF z0 G) (hP : ∀ U, G U → zz_GD zS zS2 zLg z0 sp U) {p0 : Int32} {p1 : Int32} {p2 : Int32} {w : zz_W} {a : Int32} {N : Nat} (hc : zCl w N) (hM : zz_M l zTs D zcl zFK cy z0 sp (zTys cy) G zYN zCN zMQ zRT d 13 [.ref 0, .int p0, .int p1, .int p2] zW3 [.int a] w) : zz_MH l zTs D zcl zFK cy z0 sp (zTys cy) G zy_807 method_10_code 6 (some .int) [(0, 12, 15, 37), (0, 12, 19, 13)] (d + 1) [.ref 0, .int p0, .int p1, .int p2, .ref 328] zW3 [.int (Int32.ofNat 0)] (zWo w N a) := by
  have T := zt_807 (l := l) (D := D) (cy := cy) (z0 := z0) (sp := sp) (G := G) (d := d) zz_k0_KS hG hP
  have TK := fun (K : zz_K) (h : zz_KS l D zcl zFK cy z0 sp (zTys cy) G zYN (fun y => Cond.code (zYN y) (zCN y) (zMQ y) (zRT y) :: zTs) d K) => zt_807 h hG hP
  have b := zHc_807 (d := d) (l := l) (D := D) (cy := cy) (sp := sp) (w := zW3) (p0 := p0) (p1 := p1) (p2 := p2) hG hP
  replace b := zz_fVi b TK (rfl : zz_ent zP_807 7 = (0, za_callV 1 13 3 10)) hM rfl rfl (zz_has_c zh_0) (zz_lb rfl)
  replace b := zz_fw b T (rfl : zz_ent zP_807 10 = (0, za_i2l 11)) (ze_i2l rfl)
  replace b := zz_fw b T (rfl : zz_ent zP_807 11 = (0, za_astL 3 12)) (ze_astL hc.1.1 hc.2.1 (by decide) (by decide))
  replace b := zz_fw b T (rfl : zz_ent zP_807 12 = (0, za_goto 23)) (ze_goto)
  replace b := zz_fw b T (rfl : zz_ent zP_807 23 = (0, za_const (.int (Int32.ofNat 0)) 24)) (ze_const)
  exact zz_MH_B rfl rfl (by decide +kernel) (zz_lb rfl) (zz_lb rfl) (zz_end_i zd_807_24) b
theorem zHx_807_2 {l : Launch} {D : va_G} {cy : Nat → ClassId} {z0 : Nat} {sp : Nat → Nat} {G : State → Prop} {d : Nat} (hG : zz_GF z0 G) (hP : ∀ U, G U → zz_GD zS zS2 zLg z0 sp U) (hE : ∀ U, G U → zGX z0 U) {p0 : Int32} {p1 : Int32} {p2 : Int32} {w' : zz_W} (hM : zz_MX l zTs D zcl zFK cy z0 sp (zTys cy) G zYN zCN zMQ zRT d 13 [.ref 0, .int p0, .int p1, .int p2] zW3 "java/lang/IllegalArgumentException" w') : zz_MH l zTs D zcl zFK cy z0 sp (zTys cy) G zy_807 method_10_code 6 (some .int) [(0, 12, 15, 37), (0, 12, 19, 13)] (d + 1) [.ref 0, .int p0, .int p1, .int p2, .ref 328] zW3 [.int (Int32.ofNat 2)] w' :=
  zhx_807_1 (as := [.ref 0, .int p0, .int p1, .int p2, .ref 328]) (bs := [.int p0, .int p1, .int p2]) (r := [.int (Int32.ofNat 0), .ref 328]) hG hE (zz_lb rfl) (zHc_807 (d := d) (l := l) (D := D) (cy := cy) (sp := sp) (w := zW3) (p0 := p0) (p1 := p1) (p2 := p2) hG hP) hM rfl (zz_has_c zh_0) (zz_lb rfl)
theorem zHx_807_1 {l : Launch} {D : va_G} {cy : Nat → ClassId} {z0 : Nat} {sp : Nat → Nat} {G : State → Prop} {d : Nat} (hG : zz_GF z0 G) (hP : ∀ U, G U → zz_GD zS zS2 zLg z0 sp U) (hE : ∀ U, G U → zGX z0 U) {p0 : Int32} {p1 : Int32} {p2 : Int32} {w' : zz_W} (hM : zz_MX l zTs D zcl zFK cy z0 sp (zTys cy) G zYN zCN zMQ zRT d 13 [.ref 0, .int p0, .int p1, .int p2] zW3 "java/util/NoSuchElementException" w') : zz_MH l zTs D zcl zFK cy z0 sp (zTys cy) G zy_807 method_10_code 6 (some .int) [(0, 12, 15, 37), (0, 12, 19, 13)] (d + 1) [.ref 0, .int p0, .int p1, .int p2, .ref 328] zW3 [.int (Int32.ofNat 1)] w' :=
  zhx_807_0 (as := [.ref 0, .int p0, .int p1, .int p2, .ref 328]) (bs := [.int p0, .int p1, .int p2]) (r := [.int (Int32.ofNat 0), .ref 328]) hG hE (zz_lb rfl) (zHc_807 (d := d) (l := l) (D := D) (cy := cy) (sp := sp) (w := zW3) (p0 := p0) (p1 := p1) (p2 := p2) hG hP) hM rfl (zz_has_c zh_0) (zz_lb rfl)
theorem zHc_808 {l : Launch} {D : va_G} {cy : Nat → ClassId} {z0 : Nat} {sp : Nat → Nat} {G : State → Prop} {d : Nat} (hG : zz_GF z0 G) (hP : ∀ U, G U → zz_GD zS zS2 zLg z0 sp U) {w : zz_W} {p0 : Int32} {p1 : Int32} {p2 : Int32} : zz_B l zTs D zcl zFK cy z0 sp (zTys cy) G "ToolMillLaw" "byteOf" 6 method_11_code d (0, [(0, .ref 0), (1, .int p0), (2, .int p1), (3, .int p2), (4, .ref 328)], [], w) (7, [(0, .ref 0), (1, .int p0), (2, .int p1), (3, .int p2), (4, .ref 328)], [.int p2, .int p1, .int p0, .ref 0, .int (Int32.ofNat 0), .ref 328], w) := by
  have T := zt_808 (l := l) (D := D) (cy := cy) (z0 := z0) (sp := sp) (G := G) (d := d) zz_k0_KS hG hP
  have b := zz_B_rf (l := l) (Ts := zTs) (D := D) (cl := zcl) (fk := zFK) (cy := cy) (z0 := z0) (sp := sp) (tys := zTys cy) (G := G) (own := "ToolMillLaw") (mn := "byteOf") (nL := 6) (cc := method_11_code) (d := d) ((0, [(0, .ref 0), (1, .int p0), (2, .int p1), (3, .int p2), (4, .ref 328)], [], w) : zz_F)
  replace b := zz_fw b T (rfl : zz_ent zP_808 0 = (0, za_aload 4 2)) (ze_aload rfl)
  replace b := zz_fw b T (rfl : zz_ent zP_808 2 = (0, za_const (.int (Int32.ofNat 0)) 3)) (ze_const)
  replace b := zz_fw b T (rfl : zz_ent zP_808 3 = (0, za_aload 0 4)) (ze_aload rfl)
  replace b := zz_fw b T (rfl : zz_ent zP_808 4 = (0, za_iload 1 5)) (ze_iload rfl)
  replace b := zz_fw b T (rfl : zz_ent zP_808 5 = (0, za_iload 2 6)) (ze_iload rfl)
  replace b := zz_fw b T (rfl : zz_ent zP_808 6 = (0, za_iload 3 7)) (ze_iload rfl)
  exact b
theorem zHr_808 {l : Launch} {D : va_G} {cy : Nat → ClassId} {z0 : Nat} {sp : Nat → Nat} {G : State → Prop} {d : Nat} (hG : zz_GF z0 G) (hP : ∀ U, G U → zz_GD zS zS2 zLg z0 sp U) {p0 : Int32} {p1 : Int32} {p2 : Int32} {w : zz_W} {a : Int32} {N : Nat} (hc : zCl w N) (hM : zz_M l zTs D zcl zFK cy z0 sp (zTys cy) G zYN zCN zMQ zRT d 14 [.ref 0, .int p0, .int p1, .int p2] zW3 [.int a] w) : zz_MH l zTs D zcl zFK cy z0 sp (zTys cy) G zy_808 method_11_code 6 (some .int) [(0, 12, 15, 37)] (d + 1) [.ref 0, .int p0, .int p1, .int p2, .ref 328] zW3 [.int (Int32.ofNat 0)] (zWo w N a) := by
  have T := zt_808 (l := l) (D := D) (cy := cy) (z0 := z0) (sp := sp) (G := G) (d := d) zz_k0_KS hG hP
  have TK := fun (K : zz_K) (h : zz_KS l D zcl zFK cy z0 sp (zTys cy) G zYN (fun y => Cond.code (zYN y) (zCN y) (zMQ y) (zRT y) :: zTs) d K) => zt_808 h hG hP
  have b := zHc_808 (d := d) (l := l) (D := D) (cy := cy) (sp := sp) (w := zW3) (p0 := p0) (p1 := p1) (p2 := p2) hG hP
  replace b := zz_fVi b TK (rfl : zz_ent zP_808 7 = (0, za_callV 1 14 3 10)) hM rfl rfl (zz_has_c zh_0) (zz_lb rfl)
  replace b := zz_fw b T (rfl : zz_ent zP_808 10 = (0, za_i2l 11)) (ze_i2l rfl)
  replace b := zz_fw b T (rfl : zz_ent zP_808 11 = (0, za_astL 3 12)) (ze_astL hc.1.1 hc.2.1 (by decide) (by decide))
  replace b := zz_fw b T (rfl : zz_ent zP_808 12 = (0, za_goto 19)) (ze_goto)
  replace b := zz_fw b T (rfl : zz_ent zP_808 19 = (0, za_const (.int (Int32.ofNat 0)) 20)) (ze_const)
  exact zz_MH_B rfl rfl (by decide +kernel) (zz_lb rfl) (zz_lb rfl) (zz_end_i zd_808_20) b
theorem zHx_808_1 {l : Launch} {D : va_G} {cy : Nat → ClassId} {z0 : Nat} {sp : Nat → Nat} {G : State → Prop} {d : Nat} (hG : zz_GF z0 G) (hP : ∀ U, G U → zz_GD zS zS2 zLg z0 sp U) (hE : ∀ U, G U → zGX z0 U) {p0 : Int32} {p1 : Int32} {p2 : Int32} {w' : zz_W} (hM : zz_MX l zTs D zcl zFK cy z0 sp (zTys cy) G zYN zCN zMQ zRT d 14 [.ref 0, .int p0, .int p1, .int p2] zW3 "java/util/NoSuchElementException" w') : zz_MH l zTs D zcl zFK cy z0 sp (zTys cy) G zy_808 method_11_code 6 (some .int) [(0, 12, 15, 37)] (d + 1) [.ref 0, .int p0, .int p1, .int p2, .ref 328] zW3 [.int (Int32.ofNat 1)] w' :=
  zhx_808_0 (as := [.ref 0, .int p0, .int p1, .int p2, .ref 328]) (bs := [.int p0, .int p1, .int p2]) (r := [.int (Int32.ofNat 0), .ref 328]) hG hE (zz_lb rfl) (zHc_808 (d := d) (l := l) (D := D) (cy := cy) (sp := sp) (w := zW3) (p0 := p0) (p1 := p1) (p2 := p2) hG hP) hM rfl (zz_has_c zh_0) (zz_lb rfl)
theorem zHc_809 {l : Launch} {D : va_G} {cy : Nat → ClassId} {z0 : Nat} {sp : Nat → Nat} {G : State → Prop} {d : Nat} (hG : zz_GF z0 G) (hP : ∀ U, G U → zz_GD zS zS2 zLg z0 sp U) {w : zz_W} {p0 : Int32} {p1 : Int32} {p2 : Int32} : zz_B l zTs D zcl zFK cy z0 sp (zTys cy) G "ToolMillLaw" "label" 6 method_12_code d (0, [(0, .ref 0), (1, .int p0), (2, .int p1), (3, .int p2), (4, .ref 328)], [], w) (7, [(0, .ref 0), (1, .int p0), (2, .int p1), (3, .int p2), (4, .ref 328)], [.int p2, .int p1, .int p0, .ref 0, .int (Int32.ofNat 0), .ref 328], w) := by
  have T := zt_809 (l := l) (D := D) (cy := cy) (z0 := z0) (sp := sp) (G := G) (d := d) zz_k0_KS hG hP
  have b := zz_B_rf (l := l) (Ts := zTs) (D := D) (cl := zcl) (fk := zFK) (cy := cy) (z0 := z0) (sp := sp) (tys := zTys cy) (G := G) (own := "ToolMillLaw") (mn := "label") (nL := 6) (cc := method_12_code) (d := d) ((0, [(0, .ref 0), (1, .int p0), (2, .int p1), (3, .int p2), (4, .ref 328)], [], w) : zz_F)
  replace b := zz_fw b T (rfl : zz_ent zP_809 0 = (0, za_aload 4 2)) (ze_aload rfl)
  replace b := zz_fw b T (rfl : zz_ent zP_809 2 = (0, za_const (.int (Int32.ofNat 0)) 3)) (ze_const)
  replace b := zz_fw b T (rfl : zz_ent zP_809 3 = (0, za_aload 0 4)) (ze_aload rfl)
  replace b := zz_fw b T (rfl : zz_ent zP_809 4 = (0, za_iload 1 5)) (ze_iload rfl)
  replace b := zz_fw b T (rfl : zz_ent zP_809 5 = (0, za_iload 2 6)) (ze_iload rfl)
  replace b := zz_fw b T (rfl : zz_ent zP_809 6 = (0, za_iload 3 7)) (ze_iload rfl)
  exact b
theorem zHr_809 {l : Launch} {D : va_G} {cy : Nat → ClassId} {z0 : Nat} {sp : Nat → Nat} {G : State → Prop} {d : Nat} (hG : zz_GF z0 G) (hP : ∀ U, G U → zz_GD zS zS2 zLg z0 sp U) {p0 : Int32} {p1 : Int32} {p2 : Int32} {w : zz_W} {a : Int32} {N : Nat} (hc : zCl w N) (hM : zz_M l zTs D zcl zFK cy z0 sp (zTys cy) G zYN zCN zMQ zRT d 15 [.ref 0, .int p0, .int p1, .int p2] zW3 [.int a] w) : zz_MH l zTs D zcl zFK cy z0 sp (zTys cy) G zy_809 method_12_code 6 (some .int) [(0, 12, 15, 37), (0, 12, 19, 13)] (d + 1) [.ref 0, .int p0, .int p1, .int p2, .ref 328] zW3 [.int (Int32.ofNat 0)] (zWo w N a) := by
  have T := zt_809 (l := l) (D := D) (cy := cy) (z0 := z0) (sp := sp) (G := G) (d := d) zz_k0_KS hG hP
  have TK := fun (K : zz_K) (h : zz_KS l D zcl zFK cy z0 sp (zTys cy) G zYN (fun y => Cond.code (zYN y) (zCN y) (zMQ y) (zRT y) :: zTs) d K) => zt_809 h hG hP
  have b := zHc_809 (d := d) (l := l) (D := D) (cy := cy) (sp := sp) (w := zW3) (p0 := p0) (p1 := p1) (p2 := p2) hG hP
  replace b := zz_fVi b TK (rfl : zz_ent zP_809 7 = (0, za_callV 1 15 3 10)) hM rfl rfl (zz_has_c zh_0) (zz_lb rfl)
  replace b := zz_fw b T (rfl : zz_ent zP_809 10 = (0, za_i2l 11)) (ze_i2l rfl)
  replace b := zz_fw b T (rfl : zz_ent zP_809 11 = (0, za_astL 3 12)) (ze_astL hc.1.1 hc.2.1 (by decide) (by decide))
  replace b := zz_fw b T (rfl : zz_ent zP_809 12 = (0, za_goto 23)) (ze_goto)
  replace b := zz_fw b T (rfl : zz_ent zP_809 23 = (0, za_const (.int (Int32.ofNat 0)) 24)) (ze_const)
  exact zz_MH_B rfl rfl (by decide +kernel) (zz_lb rfl) (zz_lb rfl) (zz_end_i zd_809_24) b
theorem zHx_809_2 {l : Launch} {D : va_G} {cy : Nat → ClassId} {z0 : Nat} {sp : Nat → Nat} {G : State → Prop} {d : Nat} (hG : zz_GF z0 G) (hP : ∀ U, G U → zz_GD zS zS2 zLg z0 sp U) (hE : ∀ U, G U → zGX z0 U) {p0 : Int32} {p1 : Int32} {p2 : Int32} {w' : zz_W} (hM : zz_MX l zTs D zcl zFK cy z0 sp (zTys cy) G zYN zCN zMQ zRT d 15 [.ref 0, .int p0, .int p1, .int p2] zW3 "java/lang/IllegalArgumentException" w') : zz_MH l zTs D zcl zFK cy z0 sp (zTys cy) G zy_809 method_12_code 6 (some .int) [(0, 12, 15, 37), (0, 12, 19, 13)] (d + 1) [.ref 0, .int p0, .int p1, .int p2, .ref 328] zW3 [.int (Int32.ofNat 2)] w' :=
  zhx_809_1 (as := [.ref 0, .int p0, .int p1, .int p2, .ref 328]) (bs := [.int p0, .int p1, .int p2]) (r := [.int (Int32.ofNat 0), .ref 328]) hG hE (zz_lb rfl) (zHc_809 (d := d) (l := l) (D := D) (cy := cy) (sp := sp) (w := zW3) (p0 := p0) (p1 := p1) (p2 := p2) hG hP) hM rfl (zz_has_c zh_0) (zz_lb rfl)
theorem zHx_809_1 {l : Launch} {D : va_G} {cy : Nat → ClassId} {z0 : Nat} {sp : Nat → Nat} {G : State → Prop} {d : Nat} (hG : zz_GF z0 G) (hP : ∀ U, G U → zz_GD zS zS2 zLg z0 sp U) (hE : ∀ U, G U → zGX z0 U) {p0 : Int32} {p1 : Int32} {p2 : Int32} {w' : zz_W} (hM : zz_MX l zTs D zcl zFK cy z0 sp (zTys cy) G zYN zCN zMQ zRT d 15 [.ref 0, .int p0, .int p1, .int p2] zW3 "java/util/NoSuchElementException" w') : zz_MH l zTs D zcl zFK cy z0 sp (zTys cy) G zy_809 method_12_code 6 (some .int) [(0, 12, 15, 37), (0, 12, 19, 13)] (d + 1) [.ref 0, .int p0, .int p1, .int p2, .ref 328] zW3 [.int (Int32.ofNat 1)] w' :=
  zhx_809_0 (as := [.ref 0, .int p0, .int p1, .int p2, .ref 328]) (bs := [.int p0, .int p1, .int p2]) (r := [.int (Int32.ofNat 0), .ref 328]) hG hE (zz_lb rfl) (zHc_809 (d := d) (l := l) (D := D) (cy := cy) (sp := sp) (w := zW3) (p0 := p0) (p1 := p1) (p2 := p2) hG hP) hM rfl (zz_has_c zh_0) (zz_lb rfl)
theorem zHc_810 {l : Launch} {D : va_G} {cy : Nat → ClassId} {z0 : Nat} {sp : Nat → Nat} {G : State → Prop} {d : Nat} (hG : zz_GF z0 G) (hP : ∀ U, G U → zz_GD zS zS2 zLg z0 sp U) {w : zz_W} {p0 : Int32} {p1 : Int32} {p2 : Int32} : zz_B l zTs D zcl zFK cy z0 sp (zTys cy) G "ToolMillLaw" "relocation" 6 method_13_code d (0, [(0, .ref 0), (1, .int p0), (2, .int p1), (3, .int p2), (4, .ref 328)], [], w) (7, [(0, .ref 0), (1, .int p0), (2, .int p1), (3, .int p2), (4, .ref 328)], [.int p2, .int p1, .int p0, .ref 0, .int (Int32.ofNat 0), .ref 328], w) := by
  have T := zt_810 (l := l) (D := D) (cy := cy) (z0 := z0) (sp := sp) (G := G) (d := d) zz_k0_KS hG hP
  have b := zz_B_rf (l := l) (Ts := zTs) (D := D) (cl := zcl) (fk := zFK) (cy := cy) (z0 := z0) (sp := sp) (tys := zTys cy) (G := G) (own := "ToolMillLaw") (mn := "relocation") (nL := 6) (cc := method_13_code) (d := d) ((0, [(0, .ref 0), (1, .int p0), (2, .int p1), (3, .int p2), (4, .ref 328)], [], w) : zz_F)
  replace b := zz_fw b T (rfl : zz_ent zP_810 0 = (0, za_aload 4 2)) (ze_aload rfl)
  replace b := zz_fw b T (rfl : zz_ent zP_810 2 = (0, za_const (.int (Int32.ofNat 0)) 3)) (ze_const)
  replace b := zz_fw b T (rfl : zz_ent zP_810 3 = (0, za_aload 0 4)) (ze_aload rfl)
  replace b := zz_fw b T (rfl : zz_ent zP_810 4 = (0, za_iload 1 5)) (ze_iload rfl)
  replace b := zz_fw b T (rfl : zz_ent zP_810 5 = (0, za_iload 2 6)) (ze_iload rfl)
  replace b := zz_fw b T (rfl : zz_ent zP_810 6 = (0, za_iload 3 7)) (ze_iload rfl)
  exact b
theorem zHr_810 {l : Launch} {D : va_G} {cy : Nat → ClassId} {z0 : Nat} {sp : Nat → Nat} {G : State → Prop} {d : Nat} (hG : zz_GF z0 G) (hP : ∀ U, G U → zz_GD zS zS2 zLg z0 sp U) {p0 : Int32} {p1 : Int32} {p2 : Int32} {w : zz_W} {a : Int32} {N : Nat} (hc : zCl w N) (hM : zz_M l zTs D zcl zFK cy z0 sp (zTys cy) G zYN zCN zMQ zRT d 16 [.ref 0, .int p0, .int p1, .int p2] zW3 [.int a] w) : zz_MH l zTs D zcl zFK cy z0 sp (zTys cy) G zy_810 method_13_code 6 (some .int) [(0, 12, 15, 37), (0, 12, 19, 13)] (d + 1) [.ref 0, .int p0, .int p1, .int p2, .ref 328] zW3 [.int (Int32.ofNat 0)] (zWo w N a) := by
  have T := zt_810 (l := l) (D := D) (cy := cy) (z0 := z0) (sp := sp) (G := G) (d := d) zz_k0_KS hG hP
  have TK := fun (K : zz_K) (h : zz_KS l D zcl zFK cy z0 sp (zTys cy) G zYN (fun y => Cond.code (zYN y) (zCN y) (zMQ y) (zRT y) :: zTs) d K) => zt_810 h hG hP
  have b := zHc_810 (d := d) (l := l) (D := D) (cy := cy) (sp := sp) (w := zW3) (p0 := p0) (p1 := p1) (p2 := p2) hG hP
  replace b := zz_fVi b TK (rfl : zz_ent zP_810 7 = (0, za_callV 1 16 3 10)) hM rfl rfl (zz_has_c zh_0) (zz_lb rfl)
  replace b := zz_fw b T (rfl : zz_ent zP_810 10 = (0, za_i2l 11)) (ze_i2l rfl)
  replace b := zz_fw b T (rfl : zz_ent zP_810 11 = (0, za_astL 3 12)) (ze_astL hc.1.1 hc.2.1 (by decide) (by decide))
  replace b := zz_fw b T (rfl : zz_ent zP_810 12 = (0, za_goto 23)) (ze_goto)
  replace b := zz_fw b T (rfl : zz_ent zP_810 23 = (0, za_const (.int (Int32.ofNat 0)) 24)) (ze_const)
  exact zz_MH_B rfl rfl (by decide +kernel) (zz_lb rfl) (zz_lb rfl) (zz_end_i zd_810_24) b
theorem zHx_810_2 {l : Launch} {D : va_G} {cy : Nat → ClassId} {z0 : Nat} {sp : Nat → Nat} {G : State → Prop} {d : Nat} (hG : zz_GF z0 G) (hP : ∀ U, G U → zz_GD zS zS2 zLg z0 sp U) (hE : ∀ U, G U → zGX z0 U) {p0 : Int32} {p1 : Int32} {p2 : Int32} {w' : zz_W} (hM : zz_MX l zTs D zcl zFK cy z0 sp (zTys cy) G zYN zCN zMQ zRT d 16 [.ref 0, .int p0, .int p1, .int p2] zW3 "java/lang/IllegalArgumentException" w') : zz_MH l zTs D zcl zFK cy z0 sp (zTys cy) G zy_810 method_13_code 6 (some .int) [(0, 12, 15, 37), (0, 12, 19, 13)] (d + 1) [.ref 0, .int p0, .int p1, .int p2, .ref 328] zW3 [.int (Int32.ofNat 2)] w' :=
  zhx_810_1 (as := [.ref 0, .int p0, .int p1, .int p2, .ref 328]) (bs := [.int p0, .int p1, .int p2]) (r := [.int (Int32.ofNat 0), .ref 328]) hG hE (zz_lb rfl) (zHc_810 (d := d) (l := l) (D := D) (cy := cy) (sp := sp) (w := zW3) (p0 := p0) (p1 := p1) (p2 := p2) hG hP) hM rfl (zz_has_c zh_0) (zz_lb rfl)
theorem zHx_810_1 {l : Launch} {D : va_G} {cy : Nat → ClassId} {z0 : Nat} {sp : Nat → Nat} {G : State → Prop} {d : Nat} (hG : zz_GF z0 G) (hP : ∀ U, G U → zz_GD zS zS2 zLg z0 sp U) (hE : ∀ U, G U → zGX z0 U) {p0 : Int32} {p1 : Int32} {p2 : Int32} {w' : zz_W} (hM : zz_MX l zTs D zcl zFK cy z0 sp (zTys cy) G zYN zCN zMQ zRT d 16 [.ref 0, .int p0, .int p1, .int p2] zW3 "java/util/NoSuchElementException" w') : zz_MH l zTs D zcl zFK cy z0 sp (zTys cy) G zy_810 method_13_code 6 (some .int) [(0, 12, 15, 37), (0, 12, 19, 13)] (d + 1) [.ref 0, .int p0, .int p1, .int p2, .ref 328] zW3 [.int (Int32.ofNat 1)] w' :=
  zhx_810_0 (as := [.ref 0, .int p0, .int p1, .int p2, .ref 328]) (bs := [.int p0, .int p1, .int p2]) (r := [.int (Int32.ofNat 0), .ref 328]) hG hE (zz_lb rfl) (zHc_810 (d := d) (l := l) (D := D) (cy := cy) (sp := sp) (w := zW3) (p0 := p0) (p1 := p1) (p2 := p2) hG hP) hM rfl (zz_has_c zh_0) (zz_lb rfl)
theorem zHc_811 {l : Launch} {D : va_G} {cy : Nat → ClassId} {z0 : Nat} {sp : Nat → Nat} {G : State → Prop} {d : Nat} (hG : zz_GF z0 G) (hP : ∀ U, G U → zz_GD zS zS2 zLg z0 sp U) {w : zz_W} {p0 : Int32} : zz_B l zTs D zcl zFK cy z0 sp (zTys cy) G "ToolMillLaw" "input" 4 method_14_code d (0, [(0, .ref 0), (1, .int p0), (2, .ref 328)], [], w) (4, [(0, .ref 0), (1, .int p0), (2, .ref 328)], [.int p0, .ref 0, .int (Int32.ofNat 0), .ref 328], w) := by
  have T := zt_811 (l := l) (D := D) (cy := cy) (z0 := z0) (sp := sp) (G := G) (d := d) zz_k0_KS hG hP
  have b := zz_B_rf (l := l) (Ts := zTs) (D := D) (cl := zcl) (fk := zFK) (cy := cy) (z0 := z0) (sp := sp) (tys := zTys cy) (G := G) (own := "ToolMillLaw") (mn := "input") (nL := 4) (cc := method_14_code) (d := d) ((0, [(0, .ref 0), (1, .int p0), (2, .ref 328)], [], w) : zz_F)
  replace b := zz_fw b T (rfl : zz_ent zP_811 0 = (0, za_aload 2 1)) (ze_aload rfl)
  replace b := zz_fw b T (rfl : zz_ent zP_811 1 = (0, za_const (.int (Int32.ofNat 0)) 2)) (ze_const)
  replace b := zz_fw b T (rfl : zz_ent zP_811 2 = (0, za_aload 0 3)) (ze_aload rfl)
  replace b := zz_fw b T (rfl : zz_ent zP_811 3 = (0, za_iload 1 4)) (ze_iload rfl)
  exact b
theorem zHr_811 {l : Launch} {D : va_G} {cy : Nat → ClassId} {z0 : Nat} {sp : Nat → Nat} {G : State → Prop} {d : Nat} (hG : zz_GF z0 G) (hP : ∀ U, G U → zz_GD zS zS2 zLg z0 sp U) {p0 : Int32} {w : zz_W} {a : Int32} {N : Nat} (hc : zCl w N) (hM : zz_M l zTs D zcl zFK cy z0 sp (zTys cy) G zYN zCN zMQ zRT d 17 [.ref 0, .int p0] zW3 [.int a] w) : zz_MH l zTs D zcl zFK cy z0 sp (zTys cy) G zy_811 method_14_code 4 (some .int) [(0, 9, 12, 15)] (d + 1) [.ref 0, .int p0, .ref 328] zW3 [.int (Int32.ofNat 0)] (zWo w N a) := by
  have T := zt_811 (l := l) (D := D) (cy := cy) (z0 := z0) (sp := sp) (G := G) (d := d) zz_k0_KS hG hP
  have TK := fun (K : zz_K) (h : zz_KS l D zcl zFK cy z0 sp (zTys cy) G zYN (fun y => Cond.code (zYN y) (zCN y) (zMQ y) (zRT y) :: zTs) d K) => zt_811 h hG hP
  have b := zHc_811 (d := d) (l := l) (D := D) (cy := cy) (sp := sp) (w := zW3) (p0 := p0) hG hP
  replace b := zz_fVi b TK (rfl : zz_ent zP_811 4 = (0, za_callV 1 17 1 7)) hM rfl rfl (zz_has_c zh_0) (zz_lb rfl)
  replace b := zz_fw b T (rfl : zz_ent zP_811 7 = (0, za_i2l 8)) (ze_i2l rfl)
  replace b := zz_fw b T (rfl : zz_ent zP_811 8 = (0, za_astL 3 9)) (ze_astL hc.1.1 hc.2.1 (by decide) (by decide))
  replace b := zz_fw b T (rfl : zz_ent zP_811 9 = (0, za_goto 15)) (ze_goto)
  replace b := zz_fw b T (rfl : zz_ent zP_811 15 = (0, za_const (.int (Int32.ofNat 0)) 16)) (ze_const)
  exact zz_MH_B rfl rfl (by decide +kernel) (zz_lb rfl) (zz_lb rfl) (zz_end_i zd_811_16) b
theorem zHc_812 {l : Launch} {D : va_G} {cy : Nat → ClassId} {z0 : Nat} {sp : Nat → Nat} {G : State → Prop} {d : Nat} (hG : zz_GF z0 G) (hP : ∀ U, G U → zz_GD zS zS2 zLg z0 sp U) {w : zz_W} {p0 : Int32} {p1 : Int32} : zz_B l zTs D zcl zFK cy z0 sp (zTys cy) G "ToolMillLaw" "link" 5 method_15_code d (0, [(0, .ref 0), (1, .int p0), (2, .int p1), (3, .ref 328)], [], w) (5, [(0, .ref 0), (1, .int p0), (2, .int p1), (3, .ref 328)], [.int p1, .int p0, .ref 0, .int (Int32.ofNat 0), .ref 328], w) := by
  have T := zt_812 (l := l) (D := D) (cy := cy) (z0 := z0) (sp := sp) (G := G) (d := d) zz_k0_KS hG hP
  have b := zz_B_rf (l := l) (Ts := zTs) (D := D) (cl := zcl) (fk := zFK) (cy := cy) (z0 := z0) (sp := sp) (tys := zTys cy) (G := G) (own := "ToolMillLaw") (mn := "link") (nL := 5) (cc := method_15_code) (d := d) ((0, [(0, .ref 0), (1, .int p0), (2, .int p1), (3, .ref 328)], [], w) : zz_F)
  replace b := zz_fw b T (rfl : zz_ent zP_812 0 = (0, za_aload 3 1)) (ze_aload rfl)
  replace b := zz_fw b T (rfl : zz_ent zP_812 1 = (0, za_const (.int (Int32.ofNat 0)) 2)) (ze_const)
  replace b := zz_fw b T (rfl : zz_ent zP_812 2 = (0, za_aload 0 3)) (ze_aload rfl)
  replace b := zz_fw b T (rfl : zz_ent zP_812 3 = (0, za_iload 1 4)) (ze_iload rfl)
  replace b := zz_fw b T (rfl : zz_ent zP_812 4 = (0, za_iload 2 5)) (ze_iload rfl)
  exact b
theorem zHx_812_1 {l : Launch} {D : va_G} {cy : Nat → ClassId} {z0 : Nat} {sp : Nat → Nat} {G : State → Prop} {d : Nat} (hG : zz_GF z0 G) (hP : ∀ U, G U → zz_GD zS zS2 zLg z0 sp U) (hE : ∀ U, G U → zGX z0 U) {p0 : Int32} {p1 : Int32} {w' : zz_W} (hM : zz_MX l zTs D zcl zFK cy z0 sp (zTys cy) G zYN zCN zMQ zRT d 18 [.ref 0, .int p0, .int p1] zW3 "java/lang/IllegalStateException" w') : zz_MH l zTs D zcl zFK cy z0 sp (zTys cy) G zy_812 method_15_code 5 (some .int) [(0, 10, 13, 25), (0, 10, 17, 13)] (d + 1) [.ref 0, .int p0, .int p1, .ref 328] zW3 [.int (Int32.ofNat 1)] w' :=
  zhx_812_0 (as := [.ref 0, .int p0, .int p1, .ref 328]) (bs := [.int p0, .int p1]) (r := [.int (Int32.ofNat 0), .ref 328]) hG hE (zz_lb rfl) (zHc_812 (d := d) (l := l) (D := D) (cy := cy) (sp := sp) (w := zW3) (p0 := p0) (p1 := p1) hG hP) hM rfl (zz_has_c zh_0) (zz_lb rfl)
theorem zHc_813 {l : Launch} {D : va_G} {cy : Nat → ClassId} {z0 : Nat} {sp : Nat → Nat} {G : State → Prop} {d : Nat} (hG : zz_GF z0 G) (hP : ∀ U, G U → zz_GD zS zS2 zLg z0 sp U) {w : zz_W} {p0 : Int32} : zz_B l zTs D zcl zFK cy z0 sp (zTys cy) G "ToolMillLaw" "run" 4 method_16_code d (0, [(0, .ref 0), (1, .int p0), (2, .ref 328)], [], w) (4, [(0, .ref 0), (1, .int p0), (2, .ref 328)], [.int p0, .ref 0, .int (Int32.ofNat 0), .ref 328], w) := by
  have T := zt_813 (l := l) (D := D) (cy := cy) (z0 := z0) (sp := sp) (G := G) (d := d) zz_k0_KS hG hP
  have b := zz_B_rf (l := l) (Ts := zTs) (D := D) (cl := zcl) (fk := zFK) (cy := cy) (z0 := z0) (sp := sp) (tys := zTys cy) (G := G) (own := "ToolMillLaw") (mn := "run") (nL := 4) (cc := method_16_code) (d := d) ((0, [(0, .ref 0), (1, .int p0), (2, .ref 328)], [], w) : zz_F)
  replace b := zz_fw b T (rfl : zz_ent zP_813 0 = (0, za_aload 2 1)) (ze_aload rfl)
  replace b := zz_fw b T (rfl : zz_ent zP_813 1 = (0, za_const (.int (Int32.ofNat 0)) 2)) (ze_const)
  replace b := zz_fw b T (rfl : zz_ent zP_813 2 = (0, za_aload 0 3)) (ze_aload rfl)
  replace b := zz_fw b T (rfl : zz_ent zP_813 3 = (0, za_iload 1 4)) (ze_iload rfl)
  exact b
theorem zHx_813_1 {l : Launch} {D : va_G} {cy : Nat → ClassId} {z0 : Nat} {sp : Nat → Nat} {G : State → Prop} {d : Nat} (hG : zz_GF z0 G) (hP : ∀ U, G U → zz_GD zS zS2 zLg z0 sp U) (hE : ∀ U, G U → zGX z0 U) {p0 : Int32} {w' : zz_W} (hM : zz_MX l zTs D zcl zFK cy z0 sp (zTys cy) G zYN zCN zMQ zRT d 19 [.ref 0, .int p0] zW3 "java/lang/IllegalStateException" w') : zz_MH l zTs D zcl zFK cy z0 sp (zTys cy) G zy_813 method_16_code 4 (some .int) [(0, 9, 12, 25), (0, 9, 15, 13)] (d + 1) [.ref 0, .int p0, .ref 328] zW3 [.int (Int32.ofNat 1)] w' :=
  zhx_813_0 (as := [.ref 0, .int p0, .ref 328]) (bs := [.int p0]) (r := [.int (Int32.ofNat 0), .ref 328]) hG hE (zz_lb rfl) (zHc_813 (d := d) (l := l) (D := D) (cy := cy) (sp := sp) (w := zW3) (p0 := p0) hG hP) hM rfl (zz_has_c zh_0) (zz_lb rfl)
theorem zHc_814 {l : Launch} {D : va_G} {cy : Nat → ClassId} {z0 : Nat} {sp : Nat → Nat} {G : State → Prop} {d : Nat} (hG : zz_GF z0 G) (hP : ∀ U, G U → zz_GD zS zS2 zLg z0 sp U) {w : zz_W} {p0 : Int32} : zz_B l zTs D zcl zFK cy z0 sp (zTys cy) G "ToolMillLaw" "state" 4 method_17_code d (0, [(0, .ref 0), (1, .int p0), (2, .ref 328)], [], w) (4, [(0, .ref 0), (1, .int p0), (2, .ref 328)], [.int p0, .ref 0, .int (Int32.ofNat 0), .ref 328], w) := by
  have T := zt_814 (l := l) (D := D) (cy := cy) (z0 := z0) (sp := sp) (G := G) (d := d) zz_k0_KS hG hP
  have b := zz_B_rf (l := l) (Ts := zTs) (D := D) (cl := zcl) (fk := zFK) (cy := cy) (z0 := z0) (sp := sp) (tys := zTys cy) (G := G) (own := "ToolMillLaw") (mn := "state") (nL := 4) (cc := method_17_code) (d := d) ((0, [(0, .ref 0), (1, .int p0), (2, .ref 328)], [], w) : zz_F)
  replace b := zz_fw b T (rfl : zz_ent zP_814 0 = (0, za_aload 2 1)) (ze_aload rfl)
  replace b := zz_fw b T (rfl : zz_ent zP_814 1 = (0, za_const (.int (Int32.ofNat 0)) 2)) (ze_const)
  replace b := zz_fw b T (rfl : zz_ent zP_814 2 = (0, za_aload 0 3)) (ze_aload rfl)
  replace b := zz_fw b T (rfl : zz_ent zP_814 3 = (0, za_iload 1 4)) (ze_iload rfl)
  exact b
theorem zHx_814_1 {l : Launch} {D : va_G} {cy : Nat → ClassId} {z0 : Nat} {sp : Nat → Nat} {G : State → Prop} {d : Nat} (hG : zz_GF z0 G) (hP : ∀ U, G U → zz_GD zS zS2 zLg z0 sp U) (hE : ∀ U, G U → zGX z0 U) {p0 : Int32} {w' : zz_W} (hM : zz_MX l zTs D zcl zFK cy z0 sp (zTys cy) G zYN zCN zMQ zRT d 20 [.ref 0, .int p0] zW3 "java/lang/IllegalStateException" w') : zz_MH l zTs D zcl zFK cy z0 sp (zTys cy) G zy_814 method_17_code 4 (some .int) [(0, 9, 12, 25), (0, 9, 15, 13)] (d + 1) [.ref 0, .int p0, .ref 328] zW3 [.int (Int32.ofNat 1)] w' :=
  zhx_814_0 (as := [.ref 0, .int p0, .ref 328]) (bs := [.int p0]) (r := [.int (Int32.ofNat 0), .ref 328]) hG hE (zz_lb rfl) (zHc_814 (d := d) (l := l) (D := D) (cy := cy) (sp := sp) (w := zW3) (p0 := p0) hG hP) hM rfl (zz_has_c zh_0) (zz_lb rfl)
theorem zHc_815 {l : Launch} {D : va_G} {cy : Nat → ClassId} {z0 : Nat} {sp : Nat → Nat} {G : State → Prop} {d : Nat} (hG : zz_GF z0 G) (hP : ∀ U, G U → zz_GD zS zS2 zLg z0 sp U) {w : zz_W} {p0 : Int32} : zz_B l zTs D zcl zFK cy z0 sp (zTys cy) G "ToolMillLaw" "register" 4 method_18_code d (0, [(0, .ref 0), (1, .int p0), (2, .ref 328)], [], w) (4, [(0, .ref 0), (1, .int p0), (2, .ref 328)], [.int p0, .ref 0, .int (Int32.ofNat 0), .ref 328], w) := by
  have T := zt_815 (l := l) (D := D) (cy := cy) (z0 := z0) (sp := sp) (G := G) (d := d) zz_k0_KS hG hP
  have b := zz_B_rf (l := l) (Ts := zTs) (D := D) (cl := zcl) (fk := zFK) (cy := cy) (z0 := z0) (sp := sp) (tys := zTys cy) (G := G) (own := "ToolMillLaw") (mn := "register") (nL := 4) (cc := method_18_code) (d := d) ((0, [(0, .ref 0), (1, .int p0), (2, .ref 328)], [], w) : zz_F)
  replace b := zz_fw b T (rfl : zz_ent zP_815 0 = (0, za_aload 2 1)) (ze_aload rfl)
  replace b := zz_fw b T (rfl : zz_ent zP_815 1 = (0, za_const (.int (Int32.ofNat 0)) 2)) (ze_const)
  replace b := zz_fw b T (rfl : zz_ent zP_815 2 = (0, za_aload 0 3)) (ze_aload rfl)
  replace b := zz_fw b T (rfl : zz_ent zP_815 3 = (0, za_iload 1 4)) (ze_iload rfl)
  exact b
theorem zHx_815_1 {l : Launch} {D : va_G} {cy : Nat → ClassId} {z0 : Nat} {sp : Nat → Nat} {G : State → Prop} {d : Nat} (hG : zz_GF z0 G) (hP : ∀ U, G U → zz_GD zS zS2 zLg z0 sp U) (hE : ∀ U, G U → zGX z0 U) {p0 : Int32} {w' : zz_W} (hM : zz_MX l zTs D zcl zFK cy z0 sp (zTys cy) G zYN zCN zMQ zRT d 21 [.ref 0, .int p0] zW3 "java/lang/IllegalStateException" w') : zz_MH l zTs D zcl zFK cy z0 sp (zTys cy) G zy_815 method_18_code 4 (some .int) [(0, 9, 12, 25), (0, 9, 15, 13)] (d + 1) [.ref 0, .int p0, .ref 328] zW3 [.int (Int32.ofNat 1)] w' :=
  zhx_815_0 (as := [.ref 0, .int p0, .ref 328]) (bs := [.int p0]) (r := [.int (Int32.ofNat 0), .ref 328]) hG hE (zz_lb rfl) (zHc_815 (d := d) (l := l) (D := D) (cy := cy) (sp := sp) (w := zW3) (p0 := p0) hG hP) hM rfl (zz_has_c zh_0) (zz_lb rfl)
theorem zHc_816 {l : Launch} {D : va_G} {cy : Nat → ClassId} {z0 : Nat} {sp : Nat → Nat} {G : State → Prop} {d : Nat} (hG : zz_GF z0 G) (hP : ∀ U, G U → zz_GD zS zS2 zLg z0 sp U) {w : zz_W} {p0 : Int32} : zz_B l zTs D zcl zFK cy z0 sp (zTys cy) G "ToolMillLaw" "word" 4 method_19_code d (0, [(0, .ref 0), (1, .int p0), (2, .ref 328)], [], w) (4, [(0, .ref 0), (1, .int p0), (2, .ref 328)], [.int p0, .ref 0, .int (Int32.ofNat 0), .ref 328], w) := by
  have T := zt_816 (l := l) (D := D) (cy := cy) (z0 := z0) (sp := sp) (G := G) (d := d) zz_k0_KS hG hP
  have b := zz_B_rf (l := l) (Ts := zTs) (D := D) (cl := zcl) (fk := zFK) (cy := cy) (z0 := z0) (sp := sp) (tys := zTys cy) (G := G) (own := "ToolMillLaw") (mn := "word") (nL := 4) (cc := method_19_code) (d := d) ((0, [(0, .ref 0), (1, .int p0), (2, .ref 328)], [], w) : zz_F)
  replace b := zz_fw b T (rfl : zz_ent zP_816 0 = (0, za_aload 2 1)) (ze_aload rfl)
  replace b := zz_fw b T (rfl : zz_ent zP_816 1 = (0, za_const (.int (Int32.ofNat 0)) 2)) (ze_const)
  replace b := zz_fw b T (rfl : zz_ent zP_816 2 = (0, za_aload 0 3)) (ze_aload rfl)
  replace b := zz_fw b T (rfl : zz_ent zP_816 3 = (0, za_iload 1 4)) (ze_iload rfl)
  exact b
theorem zHx_816_1 {l : Launch} {D : va_G} {cy : Nat → ClassId} {z0 : Nat} {sp : Nat → Nat} {G : State → Prop} {d : Nat} (hG : zz_GF z0 G) (hP : ∀ U, G U → zz_GD zS zS2 zLg z0 sp U) (hE : ∀ U, G U → zGX z0 U) {p0 : Int32} {w' : zz_W} (hM : zz_MX l zTs D zcl zFK cy z0 sp (zTys cy) G zYN zCN zMQ zRT d 22 [.ref 0, .int p0] zW3 "java/lang/IllegalStateException" w') : zz_MH l zTs D zcl zFK cy z0 sp (zTys cy) G zy_816 method_19_code 4 (some .int) [(0, 9, 12, 25), (0, 9, 15, 73)] (d + 1) [.ref 0, .int p0, .ref 328] zW3 [.int (Int32.ofNat 1)] w' :=
  zhx_816_0 (as := [.ref 0, .int p0, .ref 328]) (bs := [.int p0]) (r := [.int (Int32.ofNat 0), .ref 328]) hG hE (zz_lb rfl) (zHc_816 (d := d) (l := l) (D := D) (cy := cy) (sp := sp) (w := zW3) (p0 := p0) hG hP) hM rfl (zz_has_c zh_0) (zz_lb rfl)
theorem zHc_817 {l : Launch} {D : va_G} {cy : Nat → ClassId} {z0 : Nat} {sp : Nat → Nat} {G : State → Prop} {d : Nat} (hG : zz_GF z0 G) (hP : ∀ U, G U → zz_GD zS zS2 zLg z0 sp U) {w : zz_W} {p0 : Int32} : zz_B l zTs D zcl zFK cy z0 sp (zTys cy) G "ToolMillLaw" "output" 4 method_20_code d (0, [(0, .ref 0), (1, .int p0), (2, .ref 328)], [], w) (4, [(0, .ref 0), (1, .int p0), (2, .ref 328)], [.int p0, .ref 0, .int (Int32.ofNat 0), .ref 328], w) := by
  have T := zt_817 (l := l) (D := D) (cy := cy) (z0 := z0) (sp := sp) (G := G) (d := d) zz_k0_KS hG hP
  have b := zz_B_rf (l := l) (Ts := zTs) (D := D) (cl := zcl) (fk := zFK) (cy := cy) (z0 := z0) (sp := sp) (tys := zTys cy) (G := G) (own := "ToolMillLaw") (mn := "output") (nL := 4) (cc := method_20_code) (d := d) ((0, [(0, .ref 0), (1, .int p0), (2, .ref 328)], [], w) : zz_F)
  replace b := zz_fw b T (rfl : zz_ent zP_817 0 = (0, za_aload 2 1)) (ze_aload rfl)
  replace b := zz_fw b T (rfl : zz_ent zP_817 1 = (0, za_const (.int (Int32.ofNat 0)) 2)) (ze_const)
  replace b := zz_fw b T (rfl : zz_ent zP_817 2 = (0, za_aload 0 3)) (ze_aload rfl)
  replace b := zz_fw b T (rfl : zz_ent zP_817 3 = (0, za_iload 1 4)) (ze_iload rfl)
  exact b
theorem zHx_817_1 {l : Launch} {D : va_G} {cy : Nat → ClassId} {z0 : Nat} {sp : Nat → Nat} {G : State → Prop} {d : Nat} (hG : zz_GF z0 G) (hP : ∀ U, G U → zz_GD zS zS2 zLg z0 sp U) (hE : ∀ U, G U → zGX z0 U) {p0 : Int32} {w' : zz_W} (hM : zz_MX l zTs D zcl zFK cy z0 sp (zTys cy) G zYN zCN zMQ zRT d 23 [.ref 0, .int p0] zW3 "java/lang/IllegalStateException" w') : zz_MH l zTs D zcl zFK cy z0 sp (zTys cy) G zy_817 method_20_code 4 (some .int) [(0, 9, 12, 25), (0, 9, 15, 73)] (d + 1) [.ref 0, .int p0, .ref 328] zW3 [.int (Int32.ofNat 1)] w' :=
  zhx_817_0 (as := [.ref 0, .int p0, .ref 328]) (bs := [.int p0]) (r := [.int (Int32.ofNat 0), .ref 328]) hG hE (zz_lb rfl) (zHc_817 (d := d) (l := l) (D := D) (cy := cy) (sp := sp) (w := zW3) (p0 := p0) hG hP) hM rfl (zz_has_c zh_0) (zz_lb rfl)
theorem zHc_818 {l : Launch} {D : va_G} {cy : Nat → ClassId} {z0 : Nat} {sp : Nat → Nat} {G : State → Prop} {d : Nat} (hG : zz_GF z0 G) (hP : ∀ U, G U → zz_GD zS zS2 zLg z0 sp U) {w : zz_W} {p0 : Int32} {p1 : Int32} : zz_B l zTs D zcl zFK cy z0 sp (zTys cy) G "ToolMillLaw" "listing" 5 method_21_code d (0, [(0, .ref 0), (1, .int p0), (2, .int p1), (3, .ref 328)], [], w) (5, [(0, .ref 0), (1, .int p0), (2, .int p1), (3, .ref 328)], [.int p1, .int p0, .ref 0, .int (Int32.ofNat 0), .ref 328], w) := by
  have T := zt_818 (l := l) (D := D) (cy := cy) (z0 := z0) (sp := sp) (G := G) (d := d) zz_k0_KS hG hP
  have b := zz_B_rf (l := l) (Ts := zTs) (D := D) (cl := zcl) (fk := zFK) (cy := cy) (z0 := z0) (sp := sp) (tys := zTys cy) (G := G) (own := "ToolMillLaw") (mn := "listing") (nL := 5) (cc := method_21_code) (d := d) ((0, [(0, .ref 0), (1, .int p0), (2, .int p1), (3, .ref 328)], [], w) : zz_F)
  replace b := zz_fw b T (rfl : zz_ent zP_818 0 = (0, za_aload 3 1)) (ze_aload rfl)
  replace b := zz_fw b T (rfl : zz_ent zP_818 1 = (0, za_const (.int (Int32.ofNat 0)) 2)) (ze_const)
  replace b := zz_fw b T (rfl : zz_ent zP_818 2 = (0, za_aload 0 3)) (ze_aload rfl)
  replace b := zz_fw b T (rfl : zz_ent zP_818 3 = (0, za_iload 1 4)) (ze_iload rfl)
  replace b := zz_fw b T (rfl : zz_ent zP_818 4 = (0, za_iload 2 5)) (ze_iload rfl)
  exact b
theorem zHr_818 {l : Launch} {D : va_G} {cy : Nat → ClassId} {z0 : Nat} {sp : Nat → Nat} {G : State → Prop} {d : Nat} (hG : zz_GF z0 G) (hP : ∀ U, G U → zz_GD zS zS2 zLg z0 sp U) {p0 : Int32} {p1 : Int32} {w : zz_W} {a : Int32} {N : Nat} (hc : zCl w N) (hM : zz_M l zTs D zcl zFK cy z0 sp (zTys cy) G zYN zCN zMQ zRT d 27 [.ref 0, .int p0, .int p1] zW3 [.int a] w) : zz_MH l zTs D zcl zFK cy z0 sp (zTys cy) G zy_818 method_21_code 5 (some .int) [(0, 10, 13, 73)] (d + 1) [.ref 0, .int p0, .int p1, .ref 328] zW3 [.int (Int32.ofNat 0)] (zWo w N a) := by
  have T := zt_818 (l := l) (D := D) (cy := cy) (z0 := z0) (sp := sp) (G := G) (d := d) zz_k0_KS hG hP
  have TK := fun (K : zz_K) (h : zz_KS l D zcl zFK cy z0 sp (zTys cy) G zYN (fun y => Cond.code (zYN y) (zCN y) (zMQ y) (zRT y) :: zTs) d K) => zt_818 h hG hP
  have b := zHc_818 (d := d) (l := l) (D := D) (cy := cy) (sp := sp) (w := zW3) (p0 := p0) (p1 := p1) hG hP
  replace b := zz_fVi b TK (rfl : zz_ent zP_818 5 = (0, za_callV 1 27 2 8)) hM rfl rfl (zz_has_c zh_0) (zz_lb rfl)
  replace b := zz_fw b T (rfl : zz_ent zP_818 8 = (0, za_i2l 9)) (ze_i2l rfl)
  replace b := zz_fw b T (rfl : zz_ent zP_818 9 = (0, za_astL 3 10)) (ze_astL hc.1.1 hc.2.1 (by decide) (by decide))
  replace b := zz_fw b T (rfl : zz_ent zP_818 10 = (0, za_goto 17)) (ze_goto)
  replace b := zz_fw b T (rfl : zz_ent zP_818 17 = (0, za_const (.int (Int32.ofNat 0)) 18)) (ze_const)
  exact zz_MH_B rfl rfl (by decide +kernel) (zz_lb rfl) (zz_lb rfl) (zz_end_i zd_818_18) b
theorem zHx_818_1 {l : Launch} {D : va_G} {cy : Nat → ClassId} {z0 : Nat} {sp : Nat → Nat} {G : State → Prop} {d : Nat} (hG : zz_GF z0 G) (hP : ∀ U, G U → zz_GD zS zS2 zLg z0 sp U) (hE : ∀ U, G U → zGX z0 U) {p0 : Int32} {p1 : Int32} {w' : zz_W} (hM : zz_MX l zTs D zcl zFK cy z0 sp (zTys cy) G zYN zCN zMQ zRT d 27 [.ref 0, .int p0, .int p1] zW3 "java/lang/IndexOutOfBoundsException" w') : zz_MH l zTs D zcl zFK cy z0 sp (zTys cy) G zy_818 method_21_code 5 (some .int) [(0, 10, 13, 73)] (d + 1) [.ref 0, .int p0, .int p1, .ref 328] zW3 [.int (Int32.ofNat 1)] w' :=
  zhx_818_0 (as := [.ref 0, .int p0, .int p1, .ref 328]) (bs := [.int p0, .int p1]) (r := [.int (Int32.ofNat 0), .ref 328]) hG hE (zz_lb rfl) (zHc_818 (d := d) (l := l) (D := D) (cy := cy) (sp := sp) (w := zW3) (p0 := p0) (p1 := p1) hG hP) hM rfl (zz_has_c zh_0) (zz_lb rfl)
theorem zHc_819 {l : Launch} {D : va_G} {cy : Nat → ClassId} {z0 : Nat} {sp : Nat → Nat} {G : State → Prop} {d : Nat} (hG : zz_GF z0 G) (hP : ∀ U, G U → zz_GD zS zS2 zLg z0 sp U) {w : zz_W} {p0 : Int32} : zz_B l zTs D zcl zFK cy z0 sp (zTys cy) G "ToolMillLaw" "mean" 4 method_22_code d (0, [(0, .ref 0), (1, .int p0), (2, .ref 328)], [], w) (4, [(0, .ref 0), (1, .int p0), (2, .ref 328)], [.int p0, .ref 0, .int (Int32.ofNat 0), .ref 328], w) := by
  have T := zt_819 (l := l) (D := D) (cy := cy) (z0 := z0) (sp := sp) (G := G) (d := d) zz_k0_KS hG hP
  have b := zz_B_rf (l := l) (Ts := zTs) (D := D) (cl := zcl) (fk := zFK) (cy := cy) (z0 := z0) (sp := sp) (tys := zTys cy) (G := G) (own := "ToolMillLaw") (mn := "mean") (nL := 4) (cc := method_22_code) (d := d) ((0, [(0, .ref 0), (1, .int p0), (2, .ref 328)], [], w) : zz_F)
  replace b := zz_fw b T (rfl : zz_ent zP_819 0 = (0, za_aload 2 1)) (ze_aload rfl)
  replace b := zz_fw b T (rfl : zz_ent zP_819 1 = (0, za_const (.int (Int32.ofNat 0)) 2)) (ze_const)
  replace b := zz_fw b T (rfl : zz_ent zP_819 2 = (0, za_aload 0 3)) (ze_aload rfl)
  replace b := zz_fw b T (rfl : zz_ent zP_819 3 = (0, za_iload 1 4)) (ze_iload rfl)
  exact b
theorem zHx_819_1 {l : Launch} {D : va_G} {cy : Nat → ClassId} {z0 : Nat} {sp : Nat → Nat} {G : State → Prop} {d : Nat} (hG : zz_GF z0 G) (hP : ∀ U, G U → zz_GD zS zS2 zLg z0 sp U) (hE : ∀ U, G U → zGX z0 U) {p0 : Int32} {w' : zz_W} (hM : zz_MX l zTs D zcl zFK cy z0 sp (zTys cy) G zYN zCN zMQ zRT d 24 [.ref 0, .int p0] zW3 "java/lang/IllegalStateException" w') : zz_MH l zTs D zcl zFK cy z0 sp (zTys cy) G zy_819 method_22_code 4 (some .int) [(0, 9, 12, 25), (0, 9, 15, 13)] (d + 1) [.ref 0, .int p0, .ref 328] zW3 [.int (Int32.ofNat 1)] w' :=
  zhx_819_0 (as := [.ref 0, .int p0, .ref 328]) (bs := [.int p0]) (r := [.int (Int32.ofNat 0), .ref 328]) hG hE (zz_lb rfl) (zHc_819 (d := d) (l := l) (D := D) (cy := cy) (sp := sp) (w := zW3) (p0 := p0) hG hP) hM rfl (zz_has_c zh_0) (zz_lb rfl)
theorem zHc_820 {l : Launch} {D : va_G} {cy : Nat → ClassId} {z0 : Nat} {sp : Nat → Nat} {G : State → Prop} {d : Nat} (hG : zz_GF z0 G) (hP : ∀ U, G U → zz_GD zS zS2 zLg z0 sp U) {w : zz_W} {p0 : Int32} : zz_B l zTs D zcl zFK cy z0 sp (zTys cy) G "ToolMillLaw" "meant" 4 method_23_code d (0, [(0, .ref 0), (1, .int p0), (2, .ref 328)], [], w) (4, [(0, .ref 0), (1, .int p0), (2, .ref 328)], [.int p0, .ref 0, .int (Int32.ofNat 0), .ref 328], w) := by
  have T := zt_820 (l := l) (D := D) (cy := cy) (z0 := z0) (sp := sp) (G := G) (d := d) zz_k0_KS hG hP
  have b := zz_B_rf (l := l) (Ts := zTs) (D := D) (cl := zcl) (fk := zFK) (cy := cy) (z0 := z0) (sp := sp) (tys := zTys cy) (G := G) (own := "ToolMillLaw") (mn := "meant") (nL := 4) (cc := method_23_code) (d := d) ((0, [(0, .ref 0), (1, .int p0), (2, .ref 328)], [], w) : zz_F)
  replace b := zz_fw b T (rfl : zz_ent zP_820 0 = (0, za_aload 2 1)) (ze_aload rfl)
  replace b := zz_fw b T (rfl : zz_ent zP_820 1 = (0, za_const (.int (Int32.ofNat 0)) 2)) (ze_const)
  replace b := zz_fw b T (rfl : zz_ent zP_820 2 = (0, za_aload 0 3)) (ze_aload rfl)
  replace b := zz_fw b T (rfl : zz_ent zP_820 3 = (0, za_iload 1 4)) (ze_iload rfl)
  exact b
theorem zHx_820_1 {l : Launch} {D : va_G} {cy : Nat → ClassId} {z0 : Nat} {sp : Nat → Nat} {G : State → Prop} {d : Nat} (hG : zz_GF z0 G) (hP : ∀ U, G U → zz_GD zS zS2 zLg z0 sp U) (hE : ∀ U, G U → zGX z0 U) {p0 : Int32} {w' : zz_W} (hM : zz_MX l zTs D zcl zFK cy z0 sp (zTys cy) G zYN zCN zMQ zRT d 25 [.ref 0, .int p0] zW3 "java/lang/IllegalStateException" w') : zz_MH l zTs D zcl zFK cy z0 sp (zTys cy) G zy_820 method_23_code 4 (some .int) [(0, 9, 12, 25), (0, 9, 15, 13)] (d + 1) [.ref 0, .int p0, .ref 328] zW3 [.int (Int32.ofNat 1)] w' :=
  zhx_820_0 (as := [.ref 0, .int p0, .ref 328]) (bs := [.int p0]) (r := [.int (Int32.ofNat 0), .ref 328]) hG hE (zz_lb rfl) (zHc_820 (d := d) (l := l) (D := D) (cy := cy) (sp := sp) (w := zW3) (p0 := p0) hG hP) hM rfl (zz_has_c zh_0) (zz_lb rfl)
theorem zHc_821 {l : Launch} {D : va_G} {cy : Nat → ClassId} {z0 : Nat} {sp : Nat → Nat} {G : State → Prop} {d : Nat} (hG : zz_GF z0 G) (hP : ∀ U, G U → zz_GD zS zS2 zLg z0 sp U) {w : zz_W} {p0 : Int32} : zz_B l zTs D zcl zFK cy z0 sp (zTys cy) G "ToolMillLaw" "said" 4 method_24_code d (0, [(0, .ref 0), (1, .int p0), (2, .ref 328)], [], w) (4, [(0, .ref 0), (1, .int p0), (2, .ref 328)], [.int p0, .ref 0, .int (Int32.ofNat 0), .ref 328], w) := by
  have T := zt_821 (l := l) (D := D) (cy := cy) (z0 := z0) (sp := sp) (G := G) (d := d) zz_k0_KS hG hP
  have b := zz_B_rf (l := l) (Ts := zTs) (D := D) (cl := zcl) (fk := zFK) (cy := cy) (z0 := z0) (sp := sp) (tys := zTys cy) (G := G) (own := "ToolMillLaw") (mn := "said") (nL := 4) (cc := method_24_code) (d := d) ((0, [(0, .ref 0), (1, .int p0), (2, .ref 328)], [], w) : zz_F)
  replace b := zz_fw b T (rfl : zz_ent zP_821 0 = (0, za_aload 2 1)) (ze_aload rfl)
  replace b := zz_fw b T (rfl : zz_ent zP_821 1 = (0, za_const (.int (Int32.ofNat 0)) 2)) (ze_const)
  replace b := zz_fw b T (rfl : zz_ent zP_821 2 = (0, za_aload 0 3)) (ze_aload rfl)
  replace b := zz_fw b T (rfl : zz_ent zP_821 3 = (0, za_iload 1 4)) (ze_iload rfl)
  exact b
theorem zHx_821_1 {l : Launch} {D : va_G} {cy : Nat → ClassId} {z0 : Nat} {sp : Nat → Nat} {G : State → Prop} {d : Nat} (hG : zz_GF z0 G) (hP : ∀ U, G U → zz_GD zS zS2 zLg z0 sp U) (hE : ∀ U, G U → zGX z0 U) {p0 : Int32} {w' : zz_W} (hM : zz_MX l zTs D zcl zFK cy z0 sp (zTys cy) G zYN zCN zMQ zRT d 26 [.ref 0, .int p0] zW3 "java/lang/IllegalStateException" w') : zz_MH l zTs D zcl zFK cy z0 sp (zTys cy) G zy_821 method_24_code 4 (some .int) [(0, 9, 12, 25), (0, 9, 15, 73)] (d + 1) [.ref 0, .int p0, .ref 328] zW3 [.int (Int32.ofNat 1)] w' :=
  zhx_821_0 (as := [.ref 0, .int p0, .ref 328]) (bs := [.int p0]) (r := [.int (Int32.ofNat 0), .ref 328]) hG hE (zz_lb rfl) (zHc_821 (d := d) (l := l) (D := D) (cy := cy) (sp := sp) (w := zW3) (p0 := p0) hG hP) hM rfl (zz_has_c zh_0) (zz_lb rfl)
theorem zC_link {l : Launch} {D : va_G} {cy : Nat → ClassId} {z0 : Nat} {sp : Nat → Nat} {G : State → Prop} (hG : zz_GF z0 G) (hP : ∀ U, G U → zz_GD zS zS2 zLg z0 sp U) (hl : l.stackTraces = false) (hE : ∀ U, G U → zGX z0 U) (p0 : Int32) (p1 : Int32) : ∃ w1 w2, zz_MH l zTs D zcl zFK cy z0 sp (zTys cy) G zy_812 method_15_code 5 (some .int) [(0, 10, 13, 25), (0, 10, 17, 13)] 16 [.ref 0, .int p0, .int p1, .ref 328] zW3 [.int (Int32.ofNat 1)] w1 ∧ zz_M l zTs D zcl zFK cy z0 sp (zTys cy) G zYN zCN zMQ zRT 16 38 [.ref 171, .int p0, .int p1] w1 [.int (Int32.ofNat 0)] w2 ∧ zEnd (Int32.ofNat 1) (Int32.ofNat 0) w1 w2 :=
  ⟨_, _, zHx_812_1 (d := 15) hG hP hE (zXc_link (d := 9) hG hP hl hE), zMr_link (d := 14) hG hP zR_pu, zE_x (by decide)⟩
theorem zC_run {l : Launch} {D : va_G} {cy : Nat → ClassId} {z0 : Nat} {sp : Nat → Nat} {G : State → Prop} (hG : zz_GF z0 G) (hP : ∀ U, G U → zz_GD zS zS2 zLg z0 sp U) (hl : l.stackTraces = false) (hE : ∀ U, G U → zGX z0 U) (p0 : Int32) : ∃ w1 w2, zz_MH l zTs D zcl zFK cy z0 sp (zTys cy) G zy_813 method_16_code 4 (some .int) [(0, 9, 12, 25), (0, 9, 15, 13)] 16 [.ref 0, .int p0, .ref 328] zW3 [.int (Int32.ofNat 1)] w1 ∧ zz_M l zTs D zcl zFK cy z0 sp (zTys cy) G zYN zCN zMQ zRT 16 39 [.ref 171, .int p0] w1 [.int (Int32.ofNat 0)] w2 ∧ zEnd (Int32.ofNat 1) (Int32.ofNat 0) w1 w2 :=
  ⟨_, _, zHx_813_1 (d := 15) hG hP hE (zXc_run (d := 9) hG hP hl hE), zMr_run (d := 14) hG hP zR_pu, zE_x (by decide)⟩
theorem zC_state {l : Launch} {D : va_G} {cy : Nat → ClassId} {z0 : Nat} {sp : Nat → Nat} {G : State → Prop} (hG : zz_GF z0 G) (hP : ∀ U, G U → zz_GD zS zS2 zLg z0 sp U) (hl : l.stackTraces = false) (hE : ∀ U, G U → zGX z0 U) (p0 : Int32) : ∃ w1 w2, zz_MH l zTs D zcl zFK cy z0 sp (zTys cy) G zy_814 method_17_code 4 (some .int) [(0, 9, 12, 25), (0, 9, 15, 13)] 16 [.ref 0, .int p0, .ref 328] zW3 [.int (Int32.ofNat 1)] w1 ∧ zz_M l zTs D zcl zFK cy z0 sp (zTys cy) G zYN zCN zMQ zRT 16 40 [.ref 171, .int p0] w1 [.int (Int32.ofNat 0)] w2 ∧ zEnd (Int32.ofNat 1) (Int32.ofNat 0) w1 w2 :=
  ⟨_, _, zHx_814_1 (d := 15) hG hP hE (zXc_state (d := 8) hG hP hl hE), zMr_state (d := 14) hG hP zR_pu, zE_x (by decide)⟩
theorem zC_register {l : Launch} {D : va_G} {cy : Nat → ClassId} {z0 : Nat} {sp : Nat → Nat} {G : State → Prop} (hG : zz_GF z0 G) (hP : ∀ U, G U → zz_GD zS zS2 zLg z0 sp U) (hl : l.stackTraces = false) (hE : ∀ U, G U → zGX z0 U) (p0 : Int32) : ∃ w1 w2, zz_MH l zTs D zcl zFK cy z0 sp (zTys cy) G zy_815 method_18_code 4 (some .int) [(0, 9, 12, 25), (0, 9, 15, 13)] 16 [.ref 0, .int p0, .ref 328] zW3 [.int (Int32.ofNat 1)] w1 ∧ zz_M l zTs D zcl zFK cy z0 sp (zTys cy) G zYN zCN zMQ zRT 16 41 [.ref 171, .int p0] w1 [.int (Int32.ofNat 0)] w2 ∧ zEnd (Int32.ofNat 1) (Int32.ofNat 0) w1 w2 :=
  ⟨_, _, zHx_815_1 (d := 15) hG hP hE (zXc_register (d := 8) hG hP hl hE), zMr_register (d := 14) hG hP zR_pu, zE_x (by decide)⟩
theorem zC_word {l : Launch} {D : va_G} {cy : Nat → ClassId} {z0 : Nat} {sp : Nat → Nat} {G : State → Prop} (hG : zz_GF z0 G) (hP : ∀ U, G U → zz_GD zS zS2 zLg z0 sp U) (hl : l.stackTraces = false) (hE : ∀ U, G U → zGX z0 U) (p0 : Int32) : ∃ w1 w2, zz_MH l zTs D zcl zFK cy z0 sp (zTys cy) G zy_816 method_19_code 4 (some .int) [(0, 9, 12, 25), (0, 9, 15, 73)] 16 [.ref 0, .int p0, .ref 328] zW3 [.int (Int32.ofNat 1)] w1 ∧ zz_M l zTs D zcl zFK cy z0 sp (zTys cy) G zYN zCN zMQ zRT 16 42 [.ref 171, .int p0] w1 [.int (Int32.ofNat 0)] w2 ∧ zEnd (Int32.ofNat 1) (Int32.ofNat 0) w1 w2 :=
  ⟨_, _, zHx_816_1 (d := 15) hG hP hE (zXc_word (d := 8) hG hP hl hE), zMr_word (d := 14) hG hP zR_pu, zE_x (by decide)⟩
theorem zC_output {l : Launch} {D : va_G} {cy : Nat → ClassId} {z0 : Nat} {sp : Nat → Nat} {G : State → Prop} (hG : zz_GF z0 G) (hP : ∀ U, G U → zz_GD zS zS2 zLg z0 sp U) (hl : l.stackTraces = false) (hE : ∀ U, G U → zGX z0 U) (p0 : Int32) : ∃ w1 w2, zz_MH l zTs D zcl zFK cy z0 sp (zTys cy) G zy_817 method_20_code 4 (some .int) [(0, 9, 12, 25), (0, 9, 15, 73)] 16 [.ref 0, .int p0, .ref 328] zW3 [.int (Int32.ofNat 1)] w1 ∧ zz_M l zTs D zcl zFK cy z0 sp (zTys cy) G zYN zCN zMQ zRT 16 43 [.ref 171, .int p0] w1 [.int (Int32.ofNat 0)] w2 ∧ zEnd (Int32.ofNat 1) (Int32.ofNat 0) w1 w2 :=
  ⟨_, _, zHx_817_1 (d := 15) hG hP hE (zXc_output (d := 8) hG hP hl hE), zMr_output (d := 14) hG hP zR_pu, zE_x (by decide)⟩
theorem zC_mean {l : Launch} {D : va_G} {cy : Nat → ClassId} {z0 : Nat} {sp : Nat → Nat} {G : State → Prop} (hG : zz_GF z0 G) (hP : ∀ U, G U → zz_GD zS zS2 zLg z0 sp U) (hl : l.stackTraces = false) (hE : ∀ U, G U → zGX z0 U) (p0 : Int32) : ∃ w1 w2, zz_MH l zTs D zcl zFK cy z0 sp (zTys cy) G zy_819 method_22_code 4 (some .int) [(0, 9, 12, 25), (0, 9, 15, 13)] 16 [.ref 0, .int p0, .ref 328] zW3 [.int (Int32.ofNat 1)] w1 ∧ zz_M l zTs D zcl zFK cy z0 sp (zTys cy) G zYN zCN zMQ zRT 16 44 [.ref 171, .int p0] w1 [.int (Int32.ofNat 0)] w2 ∧ zEnd (Int32.ofNat 1) (Int32.ofNat 0) w1 w2 :=
  ⟨_, _, zHx_819_1 (d := 15) hG hP hE (zXc_mean (d := 9) hG hP hl hE), zMr_mean (d := 14) hG hP zR_pu, zE_x (by decide)⟩
theorem zC_meant {l : Launch} {D : va_G} {cy : Nat → ClassId} {z0 : Nat} {sp : Nat → Nat} {G : State → Prop} (hG : zz_GF z0 G) (hP : ∀ U, G U → zz_GD zS zS2 zLg z0 sp U) (hl : l.stackTraces = false) (hE : ∀ U, G U → zGX z0 U) (p0 : Int32) : ∃ w1 w2, zz_MH l zTs D zcl zFK cy z0 sp (zTys cy) G zy_820 method_23_code 4 (some .int) [(0, 9, 12, 25), (0, 9, 15, 13)] 16 [.ref 0, .int p0, .ref 328] zW3 [.int (Int32.ofNat 1)] w1 ∧ zz_M l zTs D zcl zFK cy z0 sp (zTys cy) G zYN zCN zMQ zRT 16 45 [.ref 171, .int p0] w1 [.int (Int32.ofNat 0)] w2 ∧ zEnd (Int32.ofNat 1) (Int32.ofNat 0) w1 w2 :=
  ⟨_, _, zHx_820_1 (d := 15) hG hP hE (zXc_meant (d := 8) hG hP hl hE), zMr_meant (d := 14) hG hP zR_pu, zE_x (by decide)⟩
theorem zC_said {l : Launch} {D : va_G} {cy : Nat → ClassId} {z0 : Nat} {sp : Nat → Nat} {G : State → Prop} (hG : zz_GF z0 G) (hP : ∀ U, G U → zz_GD zS zS2 zLg z0 sp U) (hl : l.stackTraces = false) (hE : ∀ U, G U → zGX z0 U) (p0 : Int32) : ∃ w1 w2, zz_MH l zTs D zcl zFK cy z0 sp (zTys cy) G zy_821 method_24_code 4 (some .int) [(0, 9, 12, 25), (0, 9, 15, 73)] 16 [.ref 0, .int p0, .ref 328] zW3 [.int (Int32.ofNat 1)] w1 ∧ zz_M l zTs D zcl zFK cy z0 sp (zTys cy) G zYN zCN zMQ zRT 16 46 [.ref 171, .int p0] w1 [.int (Int32.ofNat 0)] w2 ∧ zEnd (Int32.ofNat 1) (Int32.ofNat 0) w1 w2 :=
  ⟨_, _, zHx_821_1 (d := 15) hG hP hE (zXc_said (d := 8) hG hP hl hE), zMr_said (d := 14) hG hP zR_pu, zE_x (by decide)⟩
theorem zC_typed {l : Launch} {D : va_G} {cy : Nat → ClassId} {z0 : Nat} {sp : Nat → Nat} {G : State → Prop} (hG : zz_GF z0 G) (hP : ∀ U, G U → zz_GD zS zS2 zLg z0 sp U) (hl : l.stackTraces = false) (hE : ∀ U, G U → zGX z0 U) (p0 p1 : Int32) : ∃ w1 w2, zz_MH l zTs D zcl zFK cy z0 sp (zTys cy) G zy_805 method_8_code 5 (some .int) [(0, 10, 13, 37)] 16 [.ref 0, .int p0, .int p1, .ref 328] zW3 [.int (Int32.ofNat 1)] w1 ∧ zz_M l zTs D zcl zFK cy z0 sp (zTys cy) G zYN zCN zMQ zRT 16 31 [.ref 171, .int p0, .int p1] w1 [.int (Int32.ofNat 0)] w2 ∧ zEnd (Int32.ofNat 1) (Int32.ofNat 0) w1 w2 := by
  by_cases h : p0 = Int32.ofNat 6
  · subst h
    exact ⟨_, _, zHx_805_1 (d := 15) hG hP hE (zXc_typed_6 (d := 9) hG hP hl hE), zMr_typed (d := 14) hG hP zR_pu, zE_x (by decide)⟩
  · exact ⟨_, _, zHx_805_1 (d := 15) hG hP hE (zXc_typed_n (d := 8) hG hP hl hE h), zMr_typed (d := 14) hG hP zR_pu, zE_x (by decide)⟩
theorem zC_put {l : Launch} {D : va_G} {cy : Nat → ClassId} {z0 : Nat} {sp : Nat → Nat} {G : State → Prop} (hG : zz_GF z0 G) (hP : ∀ U, G U → zz_GD zS zS2 zLg z0 sp U) (hl : l.stackTraces = false) (hE : ∀ U, G U → zGX z0 U) (p0 : Int32) : ∃ k b w1 w2, zz_MH l zTs D zcl zFK cy z0 sp (zTys cy) G zy_800 method_3_code 4 (some .int) [(0, 9, 12, 13), (0, 9, 15, 15)] 16 [.ref 0, .int p0, .ref 328] zW3 [.int k] w1 ∧ zz_M l zTs D zcl zFK cy z0 sp (zTys cy) G zYN zCN zMQ zRT 16 28 [.ref 171, .int p0] w1 [.int b] w2 ∧ zEnd k b w1 w2 := by
  have e0 := zpc_pr p0 0 (by decide)
  have e1 := zpc_pr p0 1 (by decide)
  have e2 := zpc_pr p0 2 (by decide)
  have e3 := zpc_pr p0 3 (by decide)
  by_cases hg : zpg (zpc p0 (Int32.ofNat 0)) ∧ zpg (zpc p0 (Int32.ofNat 1)) ∧ zpg (zpc p0 (Int32.ofNat 2)) ∧ zpg (zpc p0 (Int32.ofNat 3))
  · obtain ⟨g0, g1, g2, g3⟩ := hg
    obtain ⟨w, hM, hc⟩ := zMc_put (d := 14) (l := l) (D := D) (cy := cy) (sp := sp) hG hP g0 g1 g2 g3
    obtain ⟨c1, c2, c3, c4, -⟩ := hc
    have hc := zCl_c c1 c2 c3 c4
    rw [e0, e1, e2, e3] at hM
    rw [e0] at g0
    rw [e1] at g1
    rw [e2] at g2
    rw [e3] at g3
    obtain ⟨w2, hR, hq⟩ := zMr_put (d := 14) (l := l) (D := D) (cy := cy) (sp := sp) hG hP (zCl_R (a := Int32.ofNat (0 + zpn (zpr p0 (Int32.ofNat 0)) + zpn (zpr p0 (Int32.ofNat 1)) + zpn (zpr p0 (Int32.ofNat 2)) + zpn (zpr p0 (Int32.ofNat 3)))) hc) g0 g1 g2 g3
    exact ⟨_, _, _, _, zHr_800 (d := 15) hG hP hc hM, hR, zE_P hc hq⟩
  · have hg2 := hg
    rw [e0, e1, e2, e3] at hg2
    exact ⟨_, _, _, _, zHx_800_1 (d := 15) hG hP hE (zXc_put (d := 9) hG hP hl hE hg), zMr_put_x (d := 14) hG hP zR_pu hg2, zE_x (by decide)⟩
theorem zC_end {l : Launch} {D : va_G} {cy : Nat → ClassId} {z0 : Nat} {sp : Nat → Nat} {G : State → Prop} (hG : zz_GF z0 G) (hP : ∀ U, G U → zz_GD zS zS2 zLg z0 sp U) (hl : l.stackTraces = false) (hE : ∀ U, G U → zGX z0 U) (p0 : Int32) : ∃ k w1 w2, zz_MH l zTs D zcl zFK cy z0 sp (zTys cy) G zy_801 method_4_code 3 (some .int) [(0, 5, 8, 13)] 16 [.ref 0, .int p0] zW3 [.int k] w1 ∧ zz_M l zTs D zcl zFK cy z0 sp (zTys cy) G zYN zCN zMQ zRT 16 29 [.ref 171, .int p0] w1 [] w2 ∧ zEnd k (Int32.ofNat 0) w1 w2 := by
  by_cases h : p0.toInt < 0
  · have h1 := (zi_lt p0 0 (by decide)).mpr h
    exact ⟨_, _, _, zHx_801_1 (d := 15) hG hP hE (zXc_end_l (d := 9) hG hP hl hE h1), zMr_end_n (d := 14) hG hP zR_pu (Or.inl h1), zE_x (by decide)⟩
  · by_cases h2 : 0 < p0.toInt
    · have h1 := (zi_gt p0 0 (by decide)).mpr h2
      exact ⟨_, _, _, zHx_801_1 (d := 15) hG hP hE (zXc_end_g (d := 9) hG hP hl hE (fun q => h ((zi_lt p0 0 (by decide)).mp q)) (fun q => absurd ((zi_ge p0 0 (by decide)).mp q) (by omega))), zMr_end_n (d := 14) hG hP zR_pu (Or.inr h1), zE_x (by decide)⟩
    · have e : p0 = Int32.ofNat 0 := zi_eq (c := 0) (by decide) (by omega)
      subst e
      have hw : zR (zz_up zW3 0 (3, 1, 17, (zz_to 64 zc_0 1 (zz_nI (Int32.ofNat 0))))) := ⟨zz_up_sh zs3, zR_3.2.1, fun i a b => zz_up_ne zs3 (by decide) (by omega)⟩
      have hm := zR_has hw zh_171 (by decide) (by decide)
      exact ⟨_, _, _, zHr_801 (d := 15) hG hP (zMc_end_0 (d := 14) hG hP), zMr_end_0 (d := 14) hG hP hw, zz_has_c hm, ⟨_, zz_up_sh (zz_up_sh hw.1), zz_has_up (zz_up_sh hw.1) (zz_has_up hw.1 hm), (congrArg Int32.ofNat ((zz_gn (by decide)).trans (zz_gs2 (by decide))))⟩, fun _ => ⟨0, zz_has_ne (zz_up_sh hw.1) (by decide) (zz_has_ne hw.1 (by decide) (zz_has_ne zs3 (by decide) zh_328z (by decide)) (by decide)) (by decide), by decide +kernel⟩, by show zW3.1 ≤ 331; rw [zn3_1]; decide, by show zW3.2.1 ≤ 2300700; rw [zn3_2]; decide⟩
theorem zC_fault {l : Launch} {D : va_G} {cy : Nat → ClassId} {z0 : Nat} {sp : Nat → Nat} {G : State → Prop} (hG : zz_GF z0 G) (hP : ∀ U, G U → zz_GD zS zS2 zLg z0 sp U) (hl : l.stackTraces = false) (hE : ∀ U, G U → zGX z0 U) (p0 : Int32) : ∃ k b w1 w2, zz_MH l zTs D zcl zFK cy z0 sp (zTys cy) G zy_804 method_7_code 4 (some .int) [(0, 9, 12, 13)] 16 [.ref 0, .int p0, .ref 328] zW3 [.int k] w1 ∧ zz_M l zTs D zcl zFK cy z0 sp (zTys cy) G zYN zCN zMQ zRT 16 30 [.ref 171, .int p0] w1 [.int b] w2 ∧ zEnd k b w1 w2 := by
  by_cases h : p0.toInt < 0 ∨ 2 < p0.toInt
  · exact ⟨_, _, _, _, zHx_804_1 (d := 15) hG hP hE (zXc_fault_n (d := 9) hG hP hl hE h), zMr_fault_n (d := 14) hG hP zR_pu (h.imp (zi_lt p0 0 (by decide)).mpr (zi_gt p0 2 (by decide)).mpr), zE_x (by decide)⟩
  · rcases (by omega : p0.toInt = 0 ∨ p0.toInt = 1 ∨ p0.toInt = 2) with e | e | e
    · have e := zi_eq (x := Int32.ofNat 0) (by decide) e
      subst e
      exact ⟨_, _, _, _, zHr_804 (d := 15) hG hP zCl_3 (zMc_fault_0 (d := 14) hG hP), zMr_fault_0 (d := 14) hG hP (zCl_R zCl_3), zE_u zCl_3⟩
    · have e := zi_eq (x := Int32.ofNat 1) (by decide) e
      subst e
      exact ⟨_, _, _, _, zHr_804 (d := 15) hG hP zCl_3 (zMc_fault_1 (d := 14) hG hP), zMr_fault_1 (d := 14) hG hP (zCl_R zCl_3), zE_u zCl_3⟩
    · have e := zi_eq (x := Int32.ofNat 2) (by decide) e
      subst e
      exact ⟨_, _, _, _, zHr_804 (d := 15) hG hP zCl_3 (zMc_fault_2 (d := 14) hG hP), zMr_fault_2 (d := 14) hG hP (zCl_R zCl_3), zE_u zCl_3⟩
theorem zCq_unit {l : Launch} {D : va_G} {cy : Nat → ClassId} {z0 : Nat} {sp : Nat → Nat} {G : State → Prop} (hG : zz_GF z0 G) (hP : ∀ U, G U → zz_GD zS zS2 zLg z0 sp U) {p0 : Int32} {p1 : Int32} {a : Int32} (h : zQf 12 32 [.int p0, .int p1] a = true) : ∃ k b w1 w2, zz_MH l zTs D zcl zFK cy z0 sp (zTys cy) G zy_806 method_9_code 5 (some .int) [(0, 10, 13, 37), (0, 10, 17, 13)] 16 [.ref 0, .int p0, .int p1, .ref 328] zW3 [.int k] w1 ∧ zz_M l zTs D zcl zFK cy z0 sp (zTys cy) G zYN zCN zMQ zRT 16 32 [.ref 171, .int p0, .int p1] w1 [.int b] w2 ∧ zEnd k b w1 w2 := by
  obtain ⟨h1, h2⟩ := zQf_ok (l := l) (D := D) (cy := cy) (sp := sp) hG hP h
  exact ⟨_, _, _, _, zHr_806 (d := 15) hG hP zCl_3 h1, h2, zE_f⟩
theorem zCq_section {l : Launch} {D : va_G} {cy : Nat → ClassId} {z0 : Nat} {sp : Nat → Nat} {G : State → Prop} (hG : zz_GF z0 G) (hP : ∀ U, G U → zz_GD zS zS2 zLg z0 sp U) {p0 : Int32} {p1 : Int32} {p2 : Int32} {a : Int32} (h : zQf 13 33 [.int p0, .int p1, .int p2] a = true) : ∃ k b w1 w2, zz_MH l zTs D zcl zFK cy z0 sp (zTys cy) G zy_807 method_10_code 6 (some .int) [(0, 12, 15, 37), (0, 12, 19, 13)] 16 [.ref 0, .int p0, .int p1, .int p2, .ref 328] zW3 [.int k] w1 ∧ zz_M l zTs D zcl zFK cy z0 sp (zTys cy) G zYN zCN zMQ zRT 16 33 [.ref 171, .int p0, .int p1, .int p2] w1 [.int b] w2 ∧ zEnd k b w1 w2 := by
  obtain ⟨h1, h2⟩ := zQf_ok (l := l) (D := D) (cy := cy) (sp := sp) hG hP h
  exact ⟨_, _, _, _, zHr_807 (d := 15) hG hP zCl_3 h1, h2, zE_f⟩
theorem zCq_byteOf {l : Launch} {D : va_G} {cy : Nat → ClassId} {z0 : Nat} {sp : Nat → Nat} {G : State → Prop} (hG : zz_GF z0 G) (hP : ∀ U, G U → zz_GD zS zS2 zLg z0 sp U) {p0 : Int32} {p1 : Int32} {p2 : Int32} {a : Int32} (h : zQf 14 34 [.int p0, .int p1, .int p2] a = true) : ∃ k b w1 w2, zz_MH l zTs D zcl zFK cy z0 sp (zTys cy) G zy_808 method_11_code 6 (some .int) [(0, 12, 15, 37)] 16 [.ref 0, .int p0, .int p1, .int p2, .ref 328] zW3 [.int k] w1 ∧ zz_M l zTs D zcl zFK cy z0 sp (zTys cy) G zYN zCN zMQ zRT 16 34 [.ref 171, .int p0, .int p1, .int p2] w1 [.int b] w2 ∧ zEnd k b w1 w2 := by
  obtain ⟨h1, h2⟩ := zQf_ok (l := l) (D := D) (cy := cy) (sp := sp) hG hP h
  exact ⟨_, _, _, _, zHr_808 (d := 15) hG hP zCl_3 h1, h2, zE_f⟩
theorem zCq_label {l : Launch} {D : va_G} {cy : Nat → ClassId} {z0 : Nat} {sp : Nat → Nat} {G : State → Prop} (hG : zz_GF z0 G) (hP : ∀ U, G U → zz_GD zS zS2 zLg z0 sp U) {p0 : Int32} {p1 : Int32} {p2 : Int32} {a : Int32} (h : zQf 15 35 [.int p0, .int p1, .int p2] a = true) : ∃ k b w1 w2, zz_MH l zTs D zcl zFK cy z0 sp (zTys cy) G zy_809 method_12_code 6 (some .int) [(0, 12, 15, 37), (0, 12, 19, 13)] 16 [.ref 0, .int p0, .int p1, .int p2, .ref 328] zW3 [.int k] w1 ∧ zz_M l zTs D zcl zFK cy z0 sp (zTys cy) G zYN zCN zMQ zRT 16 35 [.ref 171, .int p0, .int p1, .int p2] w1 [.int b] w2 ∧ zEnd k b w1 w2 := by
  obtain ⟨h1, h2⟩ := zQf_ok (l := l) (D := D) (cy := cy) (sp := sp) hG hP h
  exact ⟨_, _, _, _, zHr_809 (d := 15) hG hP zCl_3 h1, h2, zE_f⟩
theorem zCq_relocation {l : Launch} {D : va_G} {cy : Nat → ClassId} {z0 : Nat} {sp : Nat → Nat} {G : State → Prop} (hG : zz_GF z0 G) (hP : ∀ U, G U → zz_GD zS zS2 zLg z0 sp U) {p0 : Int32} {p1 : Int32} {p2 : Int32} {a : Int32} (h : zQf 16 36 [.int p0, .int p1, .int p2] a = true) : ∃ k b w1 w2, zz_MH l zTs D zcl zFK cy z0 sp (zTys cy) G zy_810 method_13_code 6 (some .int) [(0, 12, 15, 37), (0, 12, 19, 13)] 16 [.ref 0, .int p0, .int p1, .int p2, .ref 328] zW3 [.int k] w1 ∧ zz_M l zTs D zcl zFK cy z0 sp (zTys cy) G zYN zCN zMQ zRT 16 36 [.ref 171, .int p0, .int p1, .int p2] w1 [.int b] w2 ∧ zEnd k b w1 w2 := by
  obtain ⟨h1, h2⟩ := zQf_ok (l := l) (D := D) (cy := cy) (sp := sp) hG hP h
  exact ⟨_, _, _, _, zHr_810 (d := 15) hG hP zCl_3 h1, h2, zE_f⟩
theorem zC_unit {l : Launch} {D : va_G} {cy : Nat → ClassId} {z0 : Nat} {sp : Nat → Nat} {G : State → Prop} (hG : zz_GF z0 G) (hP : ∀ U, G U → zz_GD zS zS2 zLg z0 sp U) (hl : l.stackTraces = false) (hE : ∀ U, G U → zGX z0 U) (p0 : Int32) (p1 : Int32) : ∃ k b w1 w2, zz_MH l zTs D zcl zFK cy z0 sp (zTys cy) G zy_806 method_9_code 5 (some .int) [(0, 10, 13, 37), (0, 10, 17, 13)] 16 [.ref 0, .int p0, .int p1, .ref 328] zW3 [.int k] w1 ∧ zz_M l zTs D zcl zFK cy z0 sp (zTys cy) G zYN zCN zMQ zRT 16 32 [.ref 171, .int p0, .int p1] w1 [.int b] w2 ∧ zEnd k b w1 w2 := by
  by_cases h6 : p0 = Int32.ofNat 6
  case neg => exact ⟨_, _, _, _, zHx_806_1 (d := 15) hG hP hE (zXc_unit_n (d := 8) hG hP hl hE h6), zMr_unit_n (d := 13) hG hP zR_pu h6, zE_x (by decide)⟩
  subst h6
  by_cases h : p1.toInt < 0 ∨ 4 < p1.toInt
  case pos => exact ⟨_, _, _, _, zHx_806_2 (d := 15) hG hP hE (zXc_unit_w (d := 9) hG hP hl hE h), zMr_unit_w (d := 13) hG hP zR_pu (h.imp (zi_lt p1 0 (by decide)).mpr (zi_gt p1 4 (by decide)).mpr), zE_x (by decide)⟩
  rcases (by omega : p1.toInt = 0 ∨ p1.toInt = 1 ∨ p1.toInt = 2 ∨ p1.toInt = 3 ∨ p1.toInt = 4) with e | e | e | e | e
  · have e := zi_eq (x := (Int32.ofNat 0)) (by decide) e
    subst e
    exact zCq_unit hG hP (List.all_eq_true.mp zf_unit (6, 0, 0) (by decide))
  · have e := zi_eq (x := (Int32.ofNat 1)) (by decide) e
    subst e
    exact zCq_unit hG hP (List.all_eq_true.mp zf_unit (6, 1, 3) (by decide))
  · have e := zi_eq (x := (Int32.ofNat 2)) (by decide) e
    subst e
    exact zCq_unit hG hP (List.all_eq_true.mp zf_unit (6, 2, 4) (by decide))
  · have e := zi_eq (x := (Int32.ofNat 3)) (by decide) e
    subst e
    exact zCq_unit hG hP (List.all_eq_true.mp zf_unit (6, 3, 1) (by decide))
  · have e := zi_eq (x := (Int32.ofNat 4)) (by decide) e
    subst e
    exact zCq_unit hG hP (List.all_eq_true.mp zf_unit (6, 4, 32) (by decide))
theorem zC_section {l : Launch} {D : va_G} {cy : Nat → ClassId} {z0 : Nat} {sp : Nat → Nat} {G : State → Prop} (hG : zz_GF z0 G) (hP : ∀ U, G U → zz_GD zS zS2 zLg z0 sp U) (hl : l.stackTraces = false) (hE : ∀ U, G U → zGX z0 U) (p0 : Int32) (p1 : Int32) (p2 : Int32) : ∃ k b w1 w2, zz_MH l zTs D zcl zFK cy z0 sp (zTys cy) G zy_807 method_10_code 6 (some .int) [(0, 12, 15, 37), (0, 12, 19, 13)] 16 [.ref 0, .int p0, .int p1, .int p2, .ref 328] zW3 [.int k] w1 ∧ zz_M l zTs D zcl zFK cy z0 sp (zTys cy) G zYN zCN zMQ zRT 16 33 [.ref 171, .int p0, .int p1, .int p2] w1 [.int b] w2 ∧ zEnd k b w1 w2 := by
  by_cases h6 : p0 = Int32.ofNat 6
  case neg => exact ⟨_, _, _, _, zHx_807_1 (d := 15) hG hP hE (zXc_section_n (d := 8) hG hP hl hE h6), zMr_section_n (d := 13) hG hP zR_pu h6, zE_x (by decide)⟩
  subst h6
  by_cases ha : p1.toInt < 0
  case pos => exact ⟨_, _, _, _, zHx_807_1 (d := 15) hG hP hE (zXc_section_i (d := 9) hG hP hl hE ((zi_lt p1 0 (by decide)).mpr ha)), zMr_section_i (d := 13) hG hP zR_pu (Or.inl ((zi_lt p1 0 (by decide)).mpr ha)), zE_x (by decide)⟩
  by_cases hb : 3 ≤ p1.toInt
  case pos => exact ⟨_, _, _, _, zHx_807_1 (d := 15) hG hP hE (zXc_section_j (d := 9) hG hP hl hE (fun q => absurd ((zi_lt p1 0 (by decide)).mp q) (by omega)) (fun q => absurd ((zi_lt p1 3 (by decide)).mp q) (by omega))), zMr_section_i (d := 13) hG hP zR_pu (Or.inr ((zi_gt p1 2 (by decide)).mpr (by omega))), zE_x (by decide)⟩
  have h1 : ¬ p1 < 0 := (fun q => absurd ((zi_lt p1 0 (by decide)).mp q) (by omega))
  have h2 : p1 < Int32.ofNat 3 := (zi_lt p1 3 (by decide)).mpr (by omega)
  have h3 : ¬ Int32.ofNat 2 < p1 := (fun q => absurd ((zi_gt p1 2 (by decide)).mp q) (by omega))
  by_cases h : p2.toInt < 0 ∨ 3 < p2.toInt
  case pos => exact ⟨_, _, _, _, zHx_807_2 (d := 15) hG hP hE (zXc_section_w (d := 9) hG hP hl hE h1 h2 h), zMr_section_w (d := 13) hG hP zR_pu h1 h3 (h.imp (zi_lt p2 0 (by decide)).mpr (zi_gt p2 3 (by decide)).mpr), zE_x (by decide)⟩
  rcases (by omega : p1.toInt = 0 ∨ p1.toInt = 1 ∨ p1.toInt = 2) with e1 | e1 | e1
  · have e1 := zi_eq (x := (Int32.ofNat 0)) (by decide) e1
    subst e1
    rcases (by omega : p2.toInt = 0 ∨ p2.toInt = 1 ∨ p2.toInt = 2 ∨ p2.toInt = 3) with e | e | e | e
    · have e := zi_eq (x := (Int32.ofNat 0)) (by decide) e
      subst e
      exact zCq_section hG hP (List.all_eq_true.mp zf_section (6, 0, 0, 0) (by decide))
    · have e := zi_eq (x := (Int32.ofNat 1)) (by decide) e
      subst e
      exact zCq_section hG hP (List.all_eq_true.mp zf_section (6, 0, 1, 0) (by decide))
    · have e := zi_eq (x := (Int32.ofNat 2)) (by decide) e
      subst e
      exact zCq_section hG hP (List.all_eq_true.mp zf_section (6, 0, 2, 4) (by decide))
    · have e := zi_eq (x := (Int32.ofNat 3)) (by decide) e
      subst e
      exact zCq_section hG hP (List.all_eq_true.mp zf_section (6, 0, 3, 4294967295) (by decide))
  · have e1 := zi_eq (x := (Int32.ofNat 1)) (by decide) e1
    subst e1
    rcases (by omega : p2.toInt = 0 ∨ p2.toInt = 1 ∨ p2.toInt = 2 ∨ p2.toInt = 3) with e | e | e | e
    · have e := zi_eq (x := (Int32.ofNat 0)) (by decide) e
      subst e
      exact zCq_section hG hP (List.all_eq_true.mp zf_section (6, 1, 0, 0) (by decide))
    · have e := zi_eq (x := (Int32.ofNat 1)) (by decide) e
      subst e
      exact zCq_section hG hP (List.all_eq_true.mp zf_section (6, 1, 1, 20) (by decide))
    · have e := zi_eq (x := (Int32.ofNat 2)) (by decide) e
      subst e
      exact zCq_section hG hP (List.all_eq_true.mp zf_section (6, 1, 2, 4) (by decide))
    · have e := zi_eq (x := (Int32.ofNat 3)) (by decide) e
      subst e
      exact zCq_section hG hP (List.all_eq_true.mp zf_section (6, 1, 3, 4294967295) (by decide))
  · have e1 := zi_eq (x := (Int32.ofNat 2)) (by decide) e1
    subst e1
    rcases (by omega : p2.toInt = 0 ∨ p2.toInt = 1 ∨ p2.toInt = 2 ∨ p2.toInt = 3) with e | e | e | e
    · have e := zi_eq (x := (Int32.ofNat 0)) (by decide) e
      subst e
      exact zCq_section hG hP (List.all_eq_true.mp zf_section (6, 2, 0, 0) (by decide))
    · have e := zi_eq (x := (Int32.ofNat 1)) (by decide) e
      subst e
      exact zCq_section hG hP (List.all_eq_true.mp zf_section (6, 2, 1, 12) (by decide))
    · have e := zi_eq (x := (Int32.ofNat 2)) (by decide) e
      subst e
      exact zCq_section hG hP (List.all_eq_true.mp zf_section (6, 2, 2, 4) (by decide))
    · have e := zi_eq (x := (Int32.ofNat 3)) (by decide) e
      subst e
      exact zCq_section hG hP (List.all_eq_true.mp zf_section (6, 2, 3, 4294967295) (by decide))
theorem zC_label {l : Launch} {D : va_G} {cy : Nat → ClassId} {z0 : Nat} {sp : Nat → Nat} {G : State → Prop} (hG : zz_GF z0 G) (hP : ∀ U, G U → zz_GD zS zS2 zLg z0 sp U) (hl : l.stackTraces = false) (hE : ∀ U, G U → zGX z0 U) (p0 : Int32) (p1 : Int32) (p2 : Int32) : ∃ k b w1 w2, zz_MH l zTs D zcl zFK cy z0 sp (zTys cy) G zy_809 method_12_code 6 (some .int) [(0, 12, 15, 37), (0, 12, 19, 13)] 16 [.ref 0, .int p0, .int p1, .int p2, .ref 328] zW3 [.int k] w1 ∧ zz_M l zTs D zcl zFK cy z0 sp (zTys cy) G zYN zCN zMQ zRT 16 35 [.ref 171, .int p0, .int p1, .int p2] w1 [.int b] w2 ∧ zEnd k b w1 w2 := by
  by_cases h6 : p0 = Int32.ofNat 6
  case neg => exact ⟨_, _, _, _, zHx_809_1 (d := 15) hG hP hE (zXc_label_n (d := 8) hG hP hl hE h6), zMr_label_n (d := 13) hG hP zR_pu h6, zE_x (by decide)⟩
  subst h6
  by_cases ha : p1.toInt < 0
  case pos => exact ⟨_, _, _, _, zHx_809_1 (d := 15) hG hP hE (zXc_label_i (d := 9) hG hP hl hE ((zi_lt p1 0 (by decide)).mpr ha)), zMr_label_i (d := 13) hG hP zR_pu (Or.inl ((zi_lt p1 0 (by decide)).mpr ha)), zE_x (by decide)⟩
  by_cases hb : 4 ≤ p1.toInt
  case pos => exact ⟨_, _, _, _, zHx_809_1 (d := 15) hG hP hE (zXc_label_j (d := 9) hG hP hl hE (fun q => absurd ((zi_lt p1 0 (by decide)).mp q) (by omega)) (fun q => absurd ((zi_lt p1 4 (by decide)).mp q) (by omega))), zMr_label_i (d := 13) hG hP zR_pu (Or.inr ((zi_gt p1 3 (by decide)).mpr (by omega))), zE_x (by decide)⟩
  have h1 : ¬ p1 < 0 := (fun q => absurd ((zi_lt p1 0 (by decide)).mp q) (by omega))
  have h2 : p1 < Int32.ofNat 4 := (zi_lt p1 4 (by decide)).mpr (by omega)
  have h3 : ¬ Int32.ofNat 3 < p1 := (fun q => absurd ((zi_gt p1 3 (by decide)).mp q) (by omega))
  by_cases h : p2.toInt < 0 ∨ (3 < p2.toInt ∧ p2.toInt < 10)
  case pos => exact ⟨_, _, _, _, zHx_809_2 (d := 15) hG hP hE (zXc_label_w (d := 9) hG hP hl hE h1 h2 (by omega) (fun q => absurd ((zi_le p2 10 (by decide)).mp q) (by omega))), zMr_label_w (d := 13) hG hP zR_pu h1 h3 ((show p2.toInt < 0 ∨ 3 < p2.toInt by omega).imp (zi_lt p2 0 (by decide)).mpr (zi_gt p2 3 (by decide)).mpr) (fun q => absurd ((zi_le p2 10 (by decide)).mp q) (by omega)), zE_x (by decide)⟩
  by_cases hz : 26 ≤ p2.toInt
  case pos =>
    have e10 := zi_s10 (p := p2) (by omega)
    have hM := zMc_label_h (d := 13) (l := l) (D := D) (cy := cy) (sp := sp) hG hP (p1 := p1) (p2 := p2) h1 h2 (by omega) ((zi_le p2 10 (by decide)).mpr (by omega)) (zM_so_h (d := 13) hG hP (fun q => absurd ((zi_lt (p2 - Int32.ofNat 10) 0 (by decide)).mp q) (by omega)) ((zi_le (p2 - Int32.ofNat 10) 16 (by decide)).mpr (by omega)))
    have r1 : p2 < Int32.ofNat 0 ∨ Int32.ofNat 3 < p2 := Or.inr ((zi_gt p2 3 (by decide)).mpr (by omega))
    have r2 : Int32.ofNat 10 ≤ p2 := (zi_le p2 10 (by decide)).mpr (by omega)
    have r3 : p2 - Int32.ofNat 10 < Int32.ofNat 0 ∨ Int32.ofNat 15 < p2 - Int32.ofNat 10 := Or.inr ((zi_gt (p2 - Int32.ofNat 10) 15 (by decide)).mpr (by omega))
    rcases (by omega : p1.toInt = 0 ∨ p1.toInt = 1 ∨ p1.toInt = 2 ∨ p1.toInt = 3) with e1 | e1 | e1 | e1
    · have e1 := zi_eq (x := (Int32.ofNat 0)) (by decide) e1
      subst e1
      exact ⟨_, _, _, _, zHr_809 (d := 15) hG hP zCl_3 hM, zMr_label_h0 (d := 13) hG hP (zCl_R zCl_3) r1 r2 (by omega) r3, zE_u zCl_3⟩
    · have e1 := zi_eq (x := (Int32.ofNat 1)) (by decide) e1
      subst e1
      exact ⟨_, _, _, _, zHr_809 (d := 15) hG hP zCl_3 hM, zMr_label_h1 (d := 13) hG hP (zCl_R zCl_3) r1 r2 (by omega) r3, zE_u zCl_3⟩
    · have e1 := zi_eq (x := (Int32.ofNat 2)) (by decide) e1
      subst e1
      exact ⟨_, _, _, _, zHr_809 (d := 15) hG hP zCl_3 hM, zMr_label_h2 (d := 13) hG hP (zCl_R zCl_3) r1 r2 (by omega) r3, zE_u zCl_3⟩
    · have e1 := zi_eq (x := (Int32.ofNat 3)) (by decide) e1
      subst e1
      exact ⟨_, _, _, _, zHr_809 (d := 15) hG hP zCl_3 hM, zMr_label_h3 (d := 13) hG hP (zCl_R zCl_3) r1 r2 (by omega) r3, zE_u zCl_3⟩
  rcases (by omega : p1.toInt = 0 ∨ p1.toInt = 1 ∨ p1.toInt = 2 ∨ p1.toInt = 3) with e1 | e1 | e1 | e1
  · have e1 := zi_eq (x := (Int32.ofNat 0)) (by decide) e1
    subst e1
    rcases (by omega : p2.toInt = 0 ∨ p2.toInt = 1 ∨ p2.toInt = 2 ∨ p2.toInt = 3 ∨ p2.toInt = 10 ∨ p2.toInt = 11 ∨ p2.toInt = 12 ∨ p2.toInt = 13 ∨ p2.toInt = 14 ∨ p2.toInt = 15 ∨ p2.toInt = 16 ∨ p2.toInt = 17 ∨ p2.toInt = 18 ∨ p2.toInt = 19 ∨ p2.toInt = 20 ∨ p2.toInt = 21 ∨ p2.toInt = 22 ∨ p2.toInt = 23 ∨ p2.toInt = 24 ∨ p2.toInt = 25) with e | e | e | e | e | e | e | e | e | e | e | e | e | e | e | e | e | e | e | e
    · have e := zi_eq (x := (Int32.ofNat 0)) (by decide) e
      subst e
      exact zCq_label hG hP (List.all_eq_true.mp zf_label (6, 0, 0, 1) (by decide))
    · have e := zi_eq (x := (Int32.ofNat 1)) (by decide) e
      subst e
      exact zCq_label hG hP (List.all_eq_true.mp zf_label (6, 0, 1, 0) (by decide))
    · have e := zi_eq (x := (Int32.ofNat 2)) (by decide) e
      subst e
      exact zCq_label hG hP (List.all_eq_true.mp zf_label (6, 0, 2, 1) (by decide))
    · have e := zi_eq (x := (Int32.ofNat 3)) (by decide) e
      subst e
      exact zCq_label hG hP (List.all_eq_true.mp zf_label (6, 0, 3, 0) (by decide))
    · have e := zi_eq (x := (Int32.ofNat 10)) (by decide) e
      subst e
      exact zCq_label hG hP (List.all_eq_true.mp zf_label (6, 0, 10, 95) (by decide))
    · have e := zi_eq (x := (Int32.ofNat 11)) (by decide) e
      subst e
      exact zCq_label hG hP (List.all_eq_true.mp zf_label (6, 0, 11, 115) (by decide))
    · have e := zi_eq (x := (Int32.ofNat 12)) (by decide) e
      subst e
      exact zCq_label hG hP (List.all_eq_true.mp zf_label (6, 0, 12, 116) (by decide))
    · have e := zi_eq (x := (Int32.ofNat 13)) (by decide) e
      subst e
      exact zCq_label hG hP (List.all_eq_true.mp zf_label (6, 0, 13, 97) (by decide))
    · have e := zi_eq (x := (Int32.ofNat 14)) (by decide) e
      subst e
      exact zCq_label hG hP (List.all_eq_true.mp zf_label (6, 0, 14, 114) (by decide))
    · have e := zi_eq (x := (Int32.ofNat 15)) (by decide) e
      subst e
      exact zCq_label hG hP (List.all_eq_true.mp zf_label (6, 0, 15, 116) (by decide))
    · have e := zi_eq (x := (Int32.ofNat 16)) (by decide) e
      subst e
      exact zCq_label hG hP (List.all_eq_true.mp zf_label (6, 0, 16, 4294967295) (by decide))
    · have e := zi_eq (x := (Int32.ofNat 17)) (by decide) e
      subst e
      exact zCq_label hG hP (List.all_eq_true.mp zf_label (6, 0, 17, 4294967295) (by decide))
    · have e := zi_eq (x := (Int32.ofNat 18)) (by decide) e
      subst e
      exact zCq_label hG hP (List.all_eq_true.mp zf_label (6, 0, 18, 4294967295) (by decide))
    · have e := zi_eq (x := (Int32.ofNat 19)) (by decide) e
      subst e
      exact zCq_label hG hP (List.all_eq_true.mp zf_label (6, 0, 19, 4294967295) (by decide))
    · have e := zi_eq (x := (Int32.ofNat 20)) (by decide) e
      subst e
      exact zCq_label hG hP (List.all_eq_true.mp zf_label (6, 0, 20, 4294967295) (by decide))
    · have e := zi_eq (x := (Int32.ofNat 21)) (by decide) e
      subst e
      exact zCq_label hG hP (List.all_eq_true.mp zf_label (6, 0, 21, 4294967295) (by decide))
    · have e := zi_eq (x := (Int32.ofNat 22)) (by decide) e
      subst e
      exact zCq_label hG hP (List.all_eq_true.mp zf_label (6, 0, 22, 4294967295) (by decide))
    · have e := zi_eq (x := (Int32.ofNat 23)) (by decide) e
      subst e
      exact zCq_label hG hP (List.all_eq_true.mp zf_label (6, 0, 23, 4294967295) (by decide))
    · have e := zi_eq (x := (Int32.ofNat 24)) (by decide) e
      subst e
      exact zCq_label hG hP (List.all_eq_true.mp zf_label (6, 0, 24, 4294967295) (by decide))
    · have e := zi_eq (x := (Int32.ofNat 25)) (by decide) e
      subst e
      exact zCq_label hG hP (List.all_eq_true.mp zf_label (6, 0, 25, 4294967295) (by decide))
  · have e1 := zi_eq (x := (Int32.ofNat 1)) (by decide) e1
    subst e1
    rcases (by omega : p2.toInt = 0 ∨ p2.toInt = 1 ∨ p2.toInt = 2 ∨ p2.toInt = 3 ∨ p2.toInt = 10 ∨ p2.toInt = 11 ∨ p2.toInt = 12 ∨ p2.toInt = 13 ∨ p2.toInt = 14 ∨ p2.toInt = 15 ∨ p2.toInt = 16 ∨ p2.toInt = 17 ∨ p2.toInt = 18 ∨ p2.toInt = 19 ∨ p2.toInt = 20 ∨ p2.toInt = 21 ∨ p2.toInt = 22 ∨ p2.toInt = 23 ∨ p2.toInt = 24 ∨ p2.toInt = 25) with e | e | e | e | e | e | e | e | e | e | e | e | e | e | e | e | e | e | e | e
    · have e := zi_eq (x := (Int32.ofNat 0)) (by decide) e
      subst e
      exact zCq_label hG hP (List.all_eq_true.mp zf_label (6, 1, 0, 2) (by decide))
    · have e := zi_eq (x := (Int32.ofNat 1)) (by decide) e
      subst e
      exact zCq_label hG hP (List.all_eq_true.mp zf_label (6, 1, 1, 0) (by decide))
    · have e := zi_eq (x := (Int32.ofNat 2)) (by decide) e
      subst e
      exact zCq_label hG hP (List.all_eq_true.mp zf_label (6, 1, 2, 1) (by decide))
    · have e := zi_eq (x := (Int32.ofNat 3)) (by decide) e
      subst e
      exact zCq_label hG hP (List.all_eq_true.mp zf_label (6, 1, 3, 0) (by decide))
    · have e := zi_eq (x := (Int32.ofNat 10)) (by decide) e
      subst e
      exact zCq_label hG hP (List.all_eq_true.mp zf_label (6, 1, 10, 95) (by decide))
    · have e := zi_eq (x := (Int32.ofNat 11)) (by decide) e
      subst e
      exact zCq_label hG hP (List.all_eq_true.mp zf_label (6, 1, 11, 100) (by decide))
    · have e := zi_eq (x := (Int32.ofNat 12)) (by decide) e
      subst e
      exact zCq_label hG hP (List.all_eq_true.mp zf_label (6, 1, 12, 105) (by decide))
    · have e := zi_eq (x := (Int32.ofNat 13)) (by decide) e
      subst e
      exact zCq_label hG hP (List.all_eq_true.mp zf_label (6, 1, 13, 118) (by decide))
    · have e := zi_eq (x := (Int32.ofNat 14)) (by decide) e
      subst e
      exact zCq_label hG hP (List.all_eq_true.mp zf_label (6, 1, 14, 4294967295) (by decide))
    · have e := zi_eq (x := (Int32.ofNat 15)) (by decide) e
      subst e
      exact zCq_label hG hP (List.all_eq_true.mp zf_label (6, 1, 15, 4294967295) (by decide))
    · have e := zi_eq (x := (Int32.ofNat 16)) (by decide) e
      subst e
      exact zCq_label hG hP (List.all_eq_true.mp zf_label (6, 1, 16, 4294967295) (by decide))
    · have e := zi_eq (x := (Int32.ofNat 17)) (by decide) e
      subst e
      exact zCq_label hG hP (List.all_eq_true.mp zf_label (6, 1, 17, 4294967295) (by decide))
    · have e := zi_eq (x := (Int32.ofNat 18)) (by decide) e
      subst e
      exact zCq_label hG hP (List.all_eq_true.mp zf_label (6, 1, 18, 4294967295) (by decide))
    · have e := zi_eq (x := (Int32.ofNat 19)) (by decide) e
      subst e
      exact zCq_label hG hP (List.all_eq_true.mp zf_label (6, 1, 19, 4294967295) (by decide))
    · have e := zi_eq (x := (Int32.ofNat 20)) (by decide) e
      subst e
      exact zCq_label hG hP (List.all_eq_true.mp zf_label (6, 1, 20, 4294967295) (by decide))
    · have e := zi_eq (x := (Int32.ofNat 21)) (by decide) e
      subst e
      exact zCq_label hG hP (List.all_eq_true.mp zf_label (6, 1, 21, 4294967295) (by decide))
    · have e := zi_eq (x := (Int32.ofNat 22)) (by decide) e
      subst e
      exact zCq_label hG hP (List.all_eq_true.mp zf_label (6, 1, 22, 4294967295) (by decide))
    · have e := zi_eq (x := (Int32.ofNat 23)) (by decide) e
      subst e
      exact zCq_label hG hP (List.all_eq_true.mp zf_label (6, 1, 23, 4294967295) (by decide))
    · have e := zi_eq (x := (Int32.ofNat 24)) (by decide) e
      subst e
      exact zCq_label hG hP (List.all_eq_true.mp zf_label (6, 1, 24, 4294967295) (by decide))
    · have e := zi_eq (x := (Int32.ofNat 25)) (by decide) e
      subst e
      exact zCq_label hG hP (List.all_eq_true.mp zf_label (6, 1, 25, 4294967295) (by decide))
  · have e1 := zi_eq (x := (Int32.ofNat 2)) (by decide) e1
    subst e1
    rcases (by omega : p2.toInt = 0 ∨ p2.toInt = 1 ∨ p2.toInt = 2 ∨ p2.toInt = 3 ∨ p2.toInt = 10 ∨ p2.toInt = 11 ∨ p2.toInt = 12 ∨ p2.toInt = 13 ∨ p2.toInt = 14 ∨ p2.toInt = 15 ∨ p2.toInt = 16 ∨ p2.toInt = 17 ∨ p2.toInt = 18 ∨ p2.toInt = 19 ∨ p2.toInt = 20 ∨ p2.toInt = 21 ∨ p2.toInt = 22 ∨ p2.toInt = 23 ∨ p2.toInt = 24 ∨ p2.toInt = 25) with e | e | e | e | e | e | e | e | e | e | e | e | e | e | e | e | e | e | e | e
    · have e := zi_eq (x := (Int32.ofNat 0)) (by decide) e
      subst e
      exact zCq_label hG hP (List.all_eq_true.mp zf_label (6, 2, 0, 2) (by decide))
    · have e := zi_eq (x := (Int32.ofNat 1)) (by decide) e
      subst e
      exact zCq_label hG hP (List.all_eq_true.mp zf_label (6, 2, 1, 4) (by decide))
    · have e := zi_eq (x := (Int32.ofNat 2)) (by decide) e
      subst e
      exact zCq_label hG hP (List.all_eq_true.mp zf_label (6, 2, 2, 1) (by decide))
    · have e := zi_eq (x := (Int32.ofNat 3)) (by decide) e
      subst e
      exact zCq_label hG hP (List.all_eq_true.mp zf_label (6, 2, 3, 0) (by decide))
    · have e := zi_eq (x := (Int32.ofNat 10)) (by decide) e
      subst e
      exact zCq_label hG hP (List.all_eq_true.mp zf_label (6, 2, 10, 95) (by decide))
    · have e := zi_eq (x := (Int32.ofNat 11)) (by decide) e
      subst e
      exact zCq_label hG hP (List.all_eq_true.mp zf_label (6, 2, 11, 105) (by decide))
    · have e := zi_eq (x := (Int32.ofNat 12)) (by decide) e
      subst e
      exact zCq_label hG hP (List.all_eq_true.mp zf_label (6, 2, 12, 110) (by decide))
    · have e := zi_eq (x := (Int32.ofNat 13)) (by decide) e
      subst e
      exact zCq_label hG hP (List.all_eq_true.mp zf_label (6, 2, 13, 100) (by decide))
    · have e := zi_eq (x := (Int32.ofNat 14)) (by decide) e
      subst e
      exact zCq_label hG hP (List.all_eq_true.mp zf_label (6, 2, 14, 101) (by decide))
    · have e := zi_eq (x := (Int32.ofNat 15)) (by decide) e
      subst e
      exact zCq_label hG hP (List.all_eq_true.mp zf_label (6, 2, 15, 120) (by decide))
    · have e := zi_eq (x := (Int32.ofNat 16)) (by decide) e
      subst e
      exact zCq_label hG hP (List.all_eq_true.mp zf_label (6, 2, 16, 4294967295) (by decide))
    · have e := zi_eq (x := (Int32.ofNat 17)) (by decide) e
      subst e
      exact zCq_label hG hP (List.all_eq_true.mp zf_label (6, 2, 17, 4294967295) (by decide))
    · have e := zi_eq (x := (Int32.ofNat 18)) (by decide) e
      subst e
      exact zCq_label hG hP (List.all_eq_true.mp zf_label (6, 2, 18, 4294967295) (by decide))
    · have e := zi_eq (x := (Int32.ofNat 19)) (by decide) e
      subst e
      exact zCq_label hG hP (List.all_eq_true.mp zf_label (6, 2, 19, 4294967295) (by decide))
    · have e := zi_eq (x := (Int32.ofNat 20)) (by decide) e
      subst e
      exact zCq_label hG hP (List.all_eq_true.mp zf_label (6, 2, 20, 4294967295) (by decide))
    · have e := zi_eq (x := (Int32.ofNat 21)) (by decide) e
      subst e
      exact zCq_label hG hP (List.all_eq_true.mp zf_label (6, 2, 21, 4294967295) (by decide))
    · have e := zi_eq (x := (Int32.ofNat 22)) (by decide) e
      subst e
      exact zCq_label hG hP (List.all_eq_true.mp zf_label (6, 2, 22, 4294967295) (by decide))
    · have e := zi_eq (x := (Int32.ofNat 23)) (by decide) e
      subst e
      exact zCq_label hG hP (List.all_eq_true.mp zf_label (6, 2, 23, 4294967295) (by decide))
    · have e := zi_eq (x := (Int32.ofNat 24)) (by decide) e
      subst e
      exact zCq_label hG hP (List.all_eq_true.mp zf_label (6, 2, 24, 4294967295) (by decide))
    · have e := zi_eq (x := (Int32.ofNat 25)) (by decide) e
      subst e
      exact zCq_label hG hP (List.all_eq_true.mp zf_label (6, 2, 25, 4294967295) (by decide))
  · have e1 := zi_eq (x := (Int32.ofNat 3)) (by decide) e1
    subst e1
    rcases (by omega : p2.toInt = 0 ∨ p2.toInt = 1 ∨ p2.toInt = 2 ∨ p2.toInt = 3 ∨ p2.toInt = 10 ∨ p2.toInt = 11 ∨ p2.toInt = 12 ∨ p2.toInt = 13 ∨ p2.toInt = 14 ∨ p2.toInt = 15 ∨ p2.toInt = 16 ∨ p2.toInt = 17 ∨ p2.toInt = 18 ∨ p2.toInt = 19 ∨ p2.toInt = 20 ∨ p2.toInt = 21 ∨ p2.toInt = 22 ∨ p2.toInt = 23 ∨ p2.toInt = 24 ∨ p2.toInt = 25) with e | e | e | e | e | e | e | e | e | e | e | e | e | e | e | e | e | e | e | e
    · have e := zi_eq (x := (Int32.ofNat 0)) (by decide) e
      subst e
      exact zCq_label hG hP (List.all_eq_true.mp zf_label (6, 3, 0, 2) (by decide))
    · have e := zi_eq (x := (Int32.ofNat 1)) (by decide) e
      subst e
      exact zCq_label hG hP (List.all_eq_true.mp zf_label (6, 3, 1, 8) (by decide))
    · have e := zi_eq (x := (Int32.ofNat 2)) (by decide) e
      subst e
      exact zCq_label hG hP (List.all_eq_true.mp zf_label (6, 3, 2, 1) (by decide))
    · have e := zi_eq (x := (Int32.ofNat 3)) (by decide) e
      subst e
      exact zCq_label hG hP (List.all_eq_true.mp zf_label (6, 3, 3, 0) (by decide))
    · have e := zi_eq (x := (Int32.ofNat 10)) (by decide) e
      subst e
      exact zCq_label hG hP (List.all_eq_true.mp zf_label (6, 3, 10, 95) (by decide))
    · have e := zi_eq (x := (Int32.ofNat 11)) (by decide) e
      subst e
      exact zCq_label hG hP (List.all_eq_true.mp zf_label (6, 3, 11, 114) (by decide))
    · have e := zi_eq (x := (Int32.ofNat 12)) (by decide) e
      subst e
      exact zCq_label hG hP (List.all_eq_true.mp zf_label (6, 3, 12, 111) (by decide))
    · have e := zi_eq (x := (Int32.ofNat 13)) (by decide) e
      subst e
      exact zCq_label hG hP (List.all_eq_true.mp zf_label (6, 3, 13, 111) (by decide))
    · have e := zi_eq (x := (Int32.ofNat 14)) (by decide) e
      subst e
      exact zCq_label hG hP (List.all_eq_true.mp zf_label (6, 3, 14, 109) (by decide))
    · have e := zi_eq (x := (Int32.ofNat 15)) (by decide) e
      subst e
      exact zCq_label hG hP (List.all_eq_true.mp zf_label (6, 3, 15, 4294967295) (by decide))
    · have e := zi_eq (x := (Int32.ofNat 16)) (by decide) e
      subst e
      exact zCq_label hG hP (List.all_eq_true.mp zf_label (6, 3, 16, 4294967295) (by decide))
    · have e := zi_eq (x := (Int32.ofNat 17)) (by decide) e
      subst e
      exact zCq_label hG hP (List.all_eq_true.mp zf_label (6, 3, 17, 4294967295) (by decide))
    · have e := zi_eq (x := (Int32.ofNat 18)) (by decide) e
      subst e
      exact zCq_label hG hP (List.all_eq_true.mp zf_label (6, 3, 18, 4294967295) (by decide))
    · have e := zi_eq (x := (Int32.ofNat 19)) (by decide) e
      subst e
      exact zCq_label hG hP (List.all_eq_true.mp zf_label (6, 3, 19, 4294967295) (by decide))
    · have e := zi_eq (x := (Int32.ofNat 20)) (by decide) e
      subst e
      exact zCq_label hG hP (List.all_eq_true.mp zf_label (6, 3, 20, 4294967295) (by decide))
    · have e := zi_eq (x := (Int32.ofNat 21)) (by decide) e
      subst e
      exact zCq_label hG hP (List.all_eq_true.mp zf_label (6, 3, 21, 4294967295) (by decide))
    · have e := zi_eq (x := (Int32.ofNat 22)) (by decide) e
      subst e
      exact zCq_label hG hP (List.all_eq_true.mp zf_label (6, 3, 22, 4294967295) (by decide))
    · have e := zi_eq (x := (Int32.ofNat 23)) (by decide) e
      subst e
      exact zCq_label hG hP (List.all_eq_true.mp zf_label (6, 3, 23, 4294967295) (by decide))
    · have e := zi_eq (x := (Int32.ofNat 24)) (by decide) e
      subst e
      exact zCq_label hG hP (List.all_eq_true.mp zf_label (6, 3, 24, 4294967295) (by decide))
    · have e := zi_eq (x := (Int32.ofNat 25)) (by decide) e
      subst e
      exact zCq_label hG hP (List.all_eq_true.mp zf_label (6, 3, 25, 4294967295) (by decide))
theorem zC_relocation {l : Launch} {D : va_G} {cy : Nat → ClassId} {z0 : Nat} {sp : Nat → Nat} {G : State → Prop} (hG : zz_GF z0 G) (hP : ∀ U, G U → zz_GD zS zS2 zLg z0 sp U) (hl : l.stackTraces = false) (hE : ∀ U, G U → zGX z0 U) (p0 : Int32) (p1 : Int32) (p2 : Int32) : ∃ k b w1 w2, zz_MH l zTs D zcl zFK cy z0 sp (zTys cy) G zy_810 method_13_code 6 (some .int) [(0, 12, 15, 37), (0, 12, 19, 13)] 16 [.ref 0, .int p0, .int p1, .int p2, .ref 328] zW3 [.int k] w1 ∧ zz_M l zTs D zcl zFK cy z0 sp (zTys cy) G zYN zCN zMQ zRT 16 36 [.ref 171, .int p0, .int p1, .int p2] w1 [.int b] w2 ∧ zEnd k b w1 w2 := by
  by_cases h6 : p0 = Int32.ofNat 6
  case neg => exact ⟨_, _, _, _, zHx_810_1 (d := 15) hG hP hE (zXc_relocation_n (d := 8) hG hP hl hE h6), zMr_relocation_n (d := 13) hG hP zR_pu h6, zE_x (by decide)⟩
  subst h6
  by_cases ha : p1.toInt < 0
  case pos => exact ⟨_, _, _, _, zHx_810_1 (d := 15) hG hP hE (zXc_relocation_i (d := 9) hG hP hl hE ((zi_lt p1 0 (by decide)).mpr ha)), zMr_relocation_i (d := 13) hG hP zR_pu (Or.inl ((zi_lt p1 0 (by decide)).mpr ha)), zE_x (by decide)⟩
  by_cases hb : 1 ≤ p1.toInt
  case pos => exact ⟨_, _, _, _, zHx_810_1 (d := 15) hG hP hE (zXc_relocation_j (d := 9) hG hP hl hE (fun q => absurd ((zi_lt p1 0 (by decide)).mp q) (by omega)) (fun q => absurd ((zi_lt p1 1 (by decide)).mp q) (by omega))), zMr_relocation_i (d := 13) hG hP zR_pu (Or.inr ((zi_gt p1 0 (by decide)).mpr (by omega))), zE_x (by decide)⟩
  have h1 : ¬ p1 < 0 := (fun q => absurd ((zi_lt p1 0 (by decide)).mp q) (by omega))
  have h2 : p1 < Int32.ofNat 1 := (zi_lt p1 1 (by decide)).mpr (by omega)
  have h3 : ¬ Int32.ofNat 0 < p1 := (fun q => absurd ((zi_gt p1 0 (by decide)).mp q) (by omega))
  by_cases h : p2.toInt < 0 ∨ (5 < p2.toInt ∧ p2.toInt < 10)
  case pos => exact ⟨_, _, _, _, zHx_810_2 (d := 15) hG hP hE (zXc_relocation_w (d := 9) hG hP hl hE h1 h2 (by omega) (fun q => absurd ((zi_le p2 10 (by decide)).mp q) (by omega))), zMr_relocation_w (d := 13) hG hP zR_pu h1 h3 ((show p2.toInt < 0 ∨ 5 < p2.toInt by omega).imp (zi_lt p2 0 (by decide)).mpr (zi_gt p2 5 (by decide)).mpr) (fun q => absurd ((zi_le p2 10 (by decide)).mp q) (by omega)), zE_x (by decide)⟩
  by_cases hz : 26 ≤ p2.toInt
  case pos =>
    have e10 := zi_s10 (p := p2) (by omega)
    have hM := zMc_relocation_h (d := 13) (l := l) (D := D) (cy := cy) (sp := sp) hG hP (p1 := p1) (p2 := p2) h1 h2 (by omega) ((zi_le p2 10 (by decide)).mpr (by omega)) (zM_so_h (d := 13) hG hP (fun q => absurd ((zi_lt (p2 - Int32.ofNat 10) 0 (by decide)).mp q) (by omega)) ((zi_le (p2 - Int32.ofNat 10) 16 (by decide)).mpr (by omega)))
    have r1 : p2 < Int32.ofNat 0 ∨ Int32.ofNat 5 < p2 := Or.inr ((zi_gt p2 5 (by decide)).mpr (by omega))
    have r2 : Int32.ofNat 10 ≤ p2 := (zi_le p2 10 (by decide)).mpr (by omega)
    have r3 : p2 - Int32.ofNat 10 < Int32.ofNat 0 ∨ Int32.ofNat 15 < p2 - Int32.ofNat 10 := Or.inr ((zi_gt (p2 - Int32.ofNat 10) 15 (by decide)).mpr (by omega))
    have e1 : p1.toInt = 0 := by omega
    have e1 := zi_eq (x := (Int32.ofNat 0)) (by decide) e1
    subst e1
    exact ⟨_, _, _, _, zHr_810 (d := 15) hG hP zCl_3 hM, zMr_relocation_h0 (d := 13) hG hP (zCl_R zCl_3) r1 r2 (by omega) r3, zE_u zCl_3⟩
  have e1 : p1.toInt = 0 := by omega
  have e1 := zi_eq (x := (Int32.ofNat 0)) (by decide) e1
  subst e1
  rcases (by omega : p2.toInt = 0 ∨ p2.toInt = 1 ∨ p2.toInt = 2 ∨ p2.toInt = 3 ∨ p2.toInt = 4 ∨ p2.toInt = 5 ∨ p2.toInt = 10 ∨ p2.toInt = 11 ∨ p2.toInt = 12 ∨ p2.toInt = 13 ∨ p2.toInt = 14 ∨ p2.toInt = 15 ∨ p2.toInt = 16 ∨ p2.toInt = 17 ∨ p2.toInt = 18 ∨ p2.toInt = 19 ∨ p2.toInt = 20 ∨ p2.toInt = 21 ∨ p2.toInt = 22 ∨ p2.toInt = 23 ∨ p2.toInt = 24 ∨ p2.toInt = 25) with e | e | e | e | e | e | e | e | e | e | e | e | e | e | e | e | e | e | e | e | e | e
  · have e := zi_eq (x := (Int32.ofNat 0)) (by decide) e
    subst e
    exact zCq_relocation hG hP (List.all_eq_true.mp zf_relocation (6, 0, 0, 1) (by decide))
  · have e := zi_eq (x := (Int32.ofNat 1)) (by decide) e
    subst e
    exact zCq_relocation hG hP (List.all_eq_true.mp zf_relocation (6, 0, 1, 0) (by decide))
  · have e := zi_eq (x := (Int32.ofNat 2)) (by decide) e
    subst e
    exact zCq_relocation hG hP (List.all_eq_true.mp zf_relocation (6, 0, 2, 3) (by decide))
  · have e := zi_eq (x := (Int32.ofNat 3)) (by decide) e
    subst e
    exact zCq_relocation hG hP (List.all_eq_true.mp zf_relocation (6, 0, 3, 4294967295) (by decide))
  · have e := zi_eq (x := (Int32.ofNat 4)) (by decide) e
    subst e
    exact zCq_relocation hG hP (List.all_eq_true.mp zf_relocation (6, 0, 4, 0) (by decide))
  · have e := zi_eq (x := (Int32.ofNat 5)) (by decide) e
    subst e
    exact zCq_relocation hG hP (List.all_eq_true.mp zf_relocation (6, 0, 5, 2) (by decide))
  · have e := zi_eq (x := (Int32.ofNat 10)) (by decide) e
    subst e
    exact zCq_relocation hG hP (List.all_eq_true.mp zf_relocation (6, 0, 10, 109) (by decide))
  · have e := zi_eq (x := (Int32.ofNat 11)) (by decide) e
    subst e
    exact zCq_relocation hG hP (List.all_eq_true.mp zf_relocation (6, 0, 11, 97) (by decide))
  · have e := zi_eq (x := (Int32.ofNat 12)) (by decide) e
    subst e
    exact zCq_relocation hG hP (List.all_eq_true.mp zf_relocation (6, 0, 12, 105) (by decide))
  · have e := zi_eq (x := (Int32.ofNat 13)) (by decide) e
    subst e
    exact zCq_relocation hG hP (List.all_eq_true.mp zf_relocation (6, 0, 13, 110) (by decide))
  · have e := zi_eq (x := (Int32.ofNat 14)) (by decide) e
    subst e
    exact zCq_relocation hG hP (List.all_eq_true.mp zf_relocation (6, 0, 14, 4294967295) (by decide))
  · have e := zi_eq (x := (Int32.ofNat 15)) (by decide) e
    subst e
    exact zCq_relocation hG hP (List.all_eq_true.mp zf_relocation (6, 0, 15, 4294967295) (by decide))
  · have e := zi_eq (x := (Int32.ofNat 16)) (by decide) e
    subst e
    exact zCq_relocation hG hP (List.all_eq_true.mp zf_relocation (6, 0, 16, 4294967295) (by decide))
  · have e := zi_eq (x := (Int32.ofNat 17)) (by decide) e
    subst e
    exact zCq_relocation hG hP (List.all_eq_true.mp zf_relocation (6, 0, 17, 4294967295) (by decide))
  · have e := zi_eq (x := (Int32.ofNat 18)) (by decide) e
    subst e
    exact zCq_relocation hG hP (List.all_eq_true.mp zf_relocation (6, 0, 18, 4294967295) (by decide))
  · have e := zi_eq (x := (Int32.ofNat 19)) (by decide) e
    subst e
    exact zCq_relocation hG hP (List.all_eq_true.mp zf_relocation (6, 0, 19, 4294967295) (by decide))
  · have e := zi_eq (x := (Int32.ofNat 20)) (by decide) e
    subst e
    exact zCq_relocation hG hP (List.all_eq_true.mp zf_relocation (6, 0, 20, 4294967295) (by decide))
  · have e := zi_eq (x := (Int32.ofNat 21)) (by decide) e
    subst e
    exact zCq_relocation hG hP (List.all_eq_true.mp zf_relocation (6, 0, 21, 4294967295) (by decide))
  · have e := zi_eq (x := (Int32.ofNat 22)) (by decide) e
    subst e
    exact zCq_relocation hG hP (List.all_eq_true.mp zf_relocation (6, 0, 22, 4294967295) (by decide))
  · have e := zi_eq (x := (Int32.ofNat 23)) (by decide) e
    subst e
    exact zCq_relocation hG hP (List.all_eq_true.mp zf_relocation (6, 0, 23, 4294967295) (by decide))
  · have e := zi_eq (x := (Int32.ofNat 24)) (by decide) e
    subst e
    exact zCq_relocation hG hP (List.all_eq_true.mp zf_relocation (6, 0, 24, 4294967295) (by decide))
  · have e := zi_eq (x := (Int32.ofNat 25)) (by decide) e
    subst e
    exact zCq_relocation hG hP (List.all_eq_true.mp zf_relocation (6, 0, 25, 4294967295) (by decide))
theorem zCb_0 {l : Launch} {D : va_G} {cy : Nat → ClassId} {z0 : Nat} {sp : Nat → Nat} {G : State → Prop} (hG : zz_GF z0 G) (hP : ∀ U, G U → zz_GD zS zS2 zLg z0 sp U) (hl : l.stackTraces = false) (hE : ∀ U, G U → zGX z0 U) (p2 : Int32) : ∃ k b w1 w2, zz_MH l zTs D zcl zFK cy z0 sp (zTys cy) G zy_808 method_11_code 6 (some .int) [(0, 12, 15, 37)] 16 [.ref 0, .int (Int32.ofNat 6), .int (Int32.ofNat 0), .int p2, .ref 328] zW3 [.int k] w1 ∧ zz_M l zTs D zcl zFK cy z0 sp (zTys cy) G zYN zCN zMQ zRT 16 34 [.ref 171, .int (Int32.ofNat 6), .int (Int32.ofNat 0), .int p2] w1 [.int b] w2 ∧ zEnd k b w1 w2 := by
  by_cases h : 0 ≤ p2.toInt
  case pos => exact ⟨_, _, _, _, zHx_808_1 (d := 15) hG hP hE (zXc_byteOf_k0 (d := 9) hG hP hl hE (fun q => absurd ((zi_lt p2 0 (by decide)).mp q) (by omega))), zMr_byteOf_k0 (d := 13) hG hP zR_pu ((zi_le p2 0 (by decide)).mpr (by omega)) ((zi_le p2 0 (by decide)).mpr (by omega)), zE_x (by decide)⟩
  by_cases hn : p2.toInt < -4
  case neg =>
    rcases (by omega : p2.toInt = -4 ∨ p2.toInt = -3 ∨ p2.toInt = -2 ∨ p2.toInt = -1) with e | e | e | e
    · have e := zi_eq (x := (Int32.ofNat 4294967292)) (by decide) e
      subst e
      exact zCq_byteOf hG hP (List.all_eq_true.mp zf_byteOf (6, 0, 4294967292, 116) (by decide))
    · have e := zi_eq (x := (Int32.ofNat 4294967293)) (by decide) e
      subst e
      exact zCq_byteOf hG hP (List.all_eq_true.mp zf_byteOf (6, 0, 4294967293, 120) (by decide))
    · have e := zi_eq (x := (Int32.ofNat 4294967294)) (by decide) e
      subst e
      exact zCq_byteOf hG hP (List.all_eq_true.mp zf_byteOf (6, 0, 4294967294, 101) (by decide))
    · have e := zi_eq (x := (Int32.ofNat 4294967295)) (by decide) e
      subst e
      exact zCq_byteOf hG hP (List.all_eq_true.mp zf_byteOf (6, 0, 4294967295, 116) (by decide))
  have em := zi_m1 (p := p2) (by omega)
  have a1 : p2 < Int32.ofNat 0 := (zi_lt p2 0 (by decide)).mpr (by omega)
  have a2 : p2 < 0 := (zi_lt p2 0 (by decide)).mpr (by omega)
  have a3 : ¬ 0 ≤ p2 := fun q => absurd ((zi_le p2 0 (by decide)).mp q) (by omega)
  have key : zz_M l zTs D zcl zFK cy z0 sp (zTys cy) G zYN zCN zMQ zRT 14 78 [.ref 162, .int (Int32.ofNat 0), .int (Int32.ofNat 4294967295 - p2)] zW3 [.int (Int32.ofNat 4294967295)] zW3 ∧ zz_M l zTs D zcl zFK cy z0 sp (zTys cy) G zYN zCN zMQ zRT 15 82 [.ref 171, .int (Int32.ofNat 125), .int (Int32.ofNat 4294967295 - p2)] zWN [.int (Int32.ofNat 4294967295)] zWN := by
    by_cases hq : p2.toInt < -16
    case pos => exact ⟨zM_so_h (d := 13) hG hP (fun q => absurd ((zi_lt (Int32.ofNat 4294967295 - p2) 0 (by decide)).mp q) (by omega)) ((zi_le (Int32.ofNat 4294967295 - p2) 16 (by decide)).mpr (by omega)), zM_ns_n (d := 13) hG hP (Or.inr ((zi_gt (Int32.ofNat 4294967295 - p2) 15 (by decide)).mpr (by omega)))⟩
    generalize Int32.ofNat 4294967295 - p2 = j at em ⊢
    rcases (by omega : j.toInt = 4 ∨ j.toInt = 5 ∨ j.toInt = 6 ∨ j.toInt = 7 ∨ j.toInt = 8 ∨ j.toInt = 9 ∨ j.toInt = 10 ∨ j.toInt = 11 ∨ j.toInt = 12 ∨ j.toInt = 13 ∨ j.toInt = 14 ∨ j.toInt = 15) with e | e | e | e | e | e | e | e | e | e | e | e
    · have e := zi_eq (x := (Int32.ofNat 4)) (by decide) e
      subst e
      obtain ⟨q1, q2⟩ := zz_and (List.all_eq_true.mp zf_nm (0, 125, 4) (by decide))
      exact ⟨zKS hG hP 14 _ _ _ _ _ (zz_endv_ok q1), zKS hG hP 15 _ _ _ _ _ (zz_endv_ok q2)⟩
    · have e := zi_eq (x := (Int32.ofNat 5)) (by decide) e
      subst e
      obtain ⟨q1, q2⟩ := zz_and (List.all_eq_true.mp zf_nm (0, 125, 5) (by decide))
      exact ⟨zKS hG hP 14 _ _ _ _ _ (zz_endv_ok q1), zKS hG hP 15 _ _ _ _ _ (zz_endv_ok q2)⟩
    · have e := zi_eq (x := (Int32.ofNat 6)) (by decide) e
      subst e
      obtain ⟨q1, q2⟩ := zz_and (List.all_eq_true.mp zf_nm (0, 125, 6) (by decide))
      exact ⟨zKS hG hP 14 _ _ _ _ _ (zz_endv_ok q1), zKS hG hP 15 _ _ _ _ _ (zz_endv_ok q2)⟩
    · have e := zi_eq (x := (Int32.ofNat 7)) (by decide) e
      subst e
      obtain ⟨q1, q2⟩ := zz_and (List.all_eq_true.mp zf_nm (0, 125, 7) (by decide))
      exact ⟨zKS hG hP 14 _ _ _ _ _ (zz_endv_ok q1), zKS hG hP 15 _ _ _ _ _ (zz_endv_ok q2)⟩
    · have e := zi_eq (x := (Int32.ofNat 8)) (by decide) e
      subst e
      obtain ⟨q1, q2⟩ := zz_and (List.all_eq_true.mp zf_nm (0, 125, 8) (by decide))
      exact ⟨zKS hG hP 14 _ _ _ _ _ (zz_endv_ok q1), zKS hG hP 15 _ _ _ _ _ (zz_endv_ok q2)⟩
    · have e := zi_eq (x := (Int32.ofNat 9)) (by decide) e
      subst e
      obtain ⟨q1, q2⟩ := zz_and (List.all_eq_true.mp zf_nm (0, 125, 9) (by decide))
      exact ⟨zKS hG hP 14 _ _ _ _ _ (zz_endv_ok q1), zKS hG hP 15 _ _ _ _ _ (zz_endv_ok q2)⟩
    · have e := zi_eq (x := (Int32.ofNat 10)) (by decide) e
      subst e
      obtain ⟨q1, q2⟩ := zz_and (List.all_eq_true.mp zf_nm (0, 125, 10) (by decide))
      exact ⟨zKS hG hP 14 _ _ _ _ _ (zz_endv_ok q1), zKS hG hP 15 _ _ _ _ _ (zz_endv_ok q2)⟩
    · have e := zi_eq (x := (Int32.ofNat 11)) (by decide) e
      subst e
      obtain ⟨q1, q2⟩ := zz_and (List.all_eq_true.mp zf_nm (0, 125, 11) (by decide))
      exact ⟨zKS hG hP 14 _ _ _ _ _ (zz_endv_ok q1), zKS hG hP 15 _ _ _ _ _ (zz_endv_ok q2)⟩
    · have e := zi_eq (x := (Int32.ofNat 12)) (by decide) e
      subst e
      obtain ⟨q1, q2⟩ := zz_and (List.all_eq_true.mp zf_nm (0, 125, 12) (by decide))
      exact ⟨zKS hG hP 14 _ _ _ _ _ (zz_endv_ok q1), zKS hG hP 15 _ _ _ _ _ (zz_endv_ok q2)⟩
    · have e := zi_eq (x := (Int32.ofNat 13)) (by decide) e
      subst e
      obtain ⟨q1, q2⟩ := zz_and (List.all_eq_true.mp zf_nm (0, 125, 13) (by decide))
      exact ⟨zKS hG hP 14 _ _ _ _ _ (zz_endv_ok q1), zKS hG hP 15 _ _ _ _ _ (zz_endv_ok q2)⟩
    · have e := zi_eq (x := (Int32.ofNat 14)) (by decide) e
      subst e
      obtain ⟨q1, q2⟩ := zz_and (List.all_eq_true.mp zf_nm (0, 125, 14) (by decide))
      exact ⟨zKS hG hP 14 _ _ _ _ _ (zz_endv_ok q1), zKS hG hP 15 _ _ _ _ _ (zz_endv_ok q2)⟩
    · have e := zi_eq (x := (Int32.ofNat 15)) (by decide) e
      subst e
      obtain ⟨q1, q2⟩ := zz_and (List.all_eq_true.mp zf_nm (0, 125, 15) (by decide))
      exact ⟨zKS hG hP 14 _ _ _ _ _ (zz_endv_ok q1), zKS hG hP 15 _ _ _ _ _ (zz_endv_ok q2)⟩
  exact ⟨_, _, _, _, zHx_808_1 (d := 15) hG hP hE (zXc_byteOf_s0 (d := 9) hG hP hl hE a1 a2 key.1), zMr_byteOf_s0 (d := 13) hG hP (zR_pu (ci := 16)) a3 key.2, zE_x (by decide)⟩
theorem zCb_1 {l : Launch} {D : va_G} {cy : Nat → ClassId} {z0 : Nat} {sp : Nat → Nat} {G : State → Prop} (hG : zz_GF z0 G) (hP : ∀ U, G U → zz_GD zS zS2 zLg z0 sp U) (hl : l.stackTraces = false) (hE : ∀ U, G U → zGX z0 U) (p2 : Int32) : ∃ k b w1 w2, zz_MH l zTs D zcl zFK cy z0 sp (zTys cy) G zy_808 method_11_code 6 (some .int) [(0, 12, 15, 37)] 16 [.ref 0, .int (Int32.ofNat 6), .int (Int32.ofNat 1), .int p2, .ref 328] zW3 [.int k] w1 ∧ zz_M l zTs D zcl zFK cy z0 sp (zTys cy) G zYN zCN zMQ zRT 16 34 [.ref 171, .int (Int32.ofNat 6), .int (Int32.ofNat 1), .int p2] w1 [.int b] w2 ∧ zEnd k b w1 w2 := by
  by_cases h : 20 ≤ p2.toInt
  case pos => exact ⟨_, _, _, _, zHx_808_1 (d := 15) hG hP hE (zXc_byteOf_k1 (d := 9) hG hP hl hE (fun q => absurd ((zi_lt p2 20 (by decide)).mp q) (by omega))), zMr_byteOf_k1 (d := 13) hG hP zR_pu ((zi_le p2 0 (by decide)).mpr (by omega)) ((zi_le p2 20 (by decide)).mpr (by omega)), zE_x (by decide)⟩
  by_cases hn : p2.toInt < -6
  case neg =>
    rcases (by omega : p2.toInt = -6 ∨ p2.toInt = -5 ∨ p2.toInt = -4 ∨ p2.toInt = -3 ∨ p2.toInt = -2 ∨ p2.toInt = -1 ∨ p2.toInt = 0 ∨ p2.toInt = 1 ∨ p2.toInt = 2 ∨ p2.toInt = 3 ∨ p2.toInt = 4 ∨ p2.toInt = 5 ∨ p2.toInt = 6 ∨ p2.toInt = 7 ∨ p2.toInt = 8 ∨ p2.toInt = 9 ∨ p2.toInt = 10 ∨ p2.toInt = 11 ∨ p2.toInt = 12 ∨ p2.toInt = 13 ∨ p2.toInt = 14 ∨ p2.toInt = 15 ∨ p2.toInt = 16 ∨ p2.toInt = 17 ∨ p2.toInt = 18 ∨ p2.toInt = 19) with e | e | e | e | e | e | e | e | e | e | e | e | e | e | e | e | e | e | e | e | e | e | e | e | e | e
    · have e := zi_eq (x := (Int32.ofNat 4294967290)) (by decide) e
      subst e
      exact zCq_byteOf hG hP (List.all_eq_true.mp zf_byteOf (6, 1, 4294967290, 116) (by decide))
    · have e := zi_eq (x := (Int32.ofNat 4294967291)) (by decide) e
      subst e
      exact zCq_byteOf hG hP (List.all_eq_true.mp zf_byteOf (6, 1, 4294967291, 114) (by decide))
    · have e := zi_eq (x := (Int32.ofNat 4294967292)) (by decide) e
      subst e
      exact zCq_byteOf hG hP (List.all_eq_true.mp zf_byteOf (6, 1, 4294967292, 97) (by decide))
    · have e := zi_eq (x := (Int32.ofNat 4294967293)) (by decide) e
      subst e
      exact zCq_byteOf hG hP (List.all_eq_true.mp zf_byteOf (6, 1, 4294967293, 116) (by decide))
    · have e := zi_eq (x := (Int32.ofNat 4294967294)) (by decide) e
      subst e
      exact zCq_byteOf hG hP (List.all_eq_true.mp zf_byteOf (6, 1, 4294967294, 115) (by decide))
    · have e := zi_eq (x := (Int32.ofNat 4294967295)) (by decide) e
      subst e
      exact zCq_byteOf hG hP (List.all_eq_true.mp zf_byteOf (6, 1, 4294967295, 95) (by decide))
    · have e := zi_eq (x := (Int32.ofNat 0)) (by decide) e
      subst e
      exact zCq_byteOf hG hP (List.all_eq_true.mp zf_byteOf (6, 1, 0, 0) (by decide))
    · have e := zi_eq (x := (Int32.ofNat 1)) (by decide) e
      subst e
      exact zCq_byteOf hG hP (List.all_eq_true.mp zf_byteOf (6, 1, 1, 0) (by decide))
    · have e := zi_eq (x := (Int32.ofNat 2)) (by decide) e
      subst e
      exact zCq_byteOf hG hP (List.all_eq_true.mp zf_byteOf (6, 1, 2, 0) (by decide))
    · have e := zi_eq (x := (Int32.ofNat 3)) (by decide) e
      subst e
      exact zCq_byteOf hG hP (List.all_eq_true.mp zf_byteOf (6, 1, 3, 12) (by decide))
    · have e := zi_eq (x := (Int32.ofNat 4)) (by decide) e
      subst e
      exact zCq_byteOf hG hP (List.all_eq_true.mp zf_byteOf (6, 1, 4, 0) (by decide))
    · have e := zi_eq (x := (Int32.ofNat 5)) (by decide) e
      subst e
      exact zCq_byteOf hG hP (List.all_eq_true.mp zf_byteOf (6, 1, 5, 0) (by decide))
    · have e := zi_eq (x := (Int32.ofNat 6)) (by decide) e
      subst e
      exact zCq_byteOf hG hP (List.all_eq_true.mp zf_byteOf (6, 1, 6, 0) (by decide))
    · have e := zi_eq (x := (Int32.ofNat 7)) (by decide) e
      subst e
      exact zCq_byteOf hG hP (List.all_eq_true.mp zf_byteOf (6, 1, 7, 0) (by decide))
    · have e := zi_eq (x := (Int32.ofNat 8)) (by decide) e
      subst e
      exact zCq_byteOf hG hP (List.all_eq_true.mp zf_byteOf (6, 1, 8, 33) (by decide))
    · have e := zi_eq (x := (Int32.ofNat 9)) (by decide) e
      subst e
      exact zCq_byteOf hG hP (List.all_eq_true.mp zf_byteOf (6, 1, 9, 32) (by decide))
    · have e := zi_eq (x := (Int32.ofNat 10)) (by decide) e
      subst e
      exact zCq_byteOf hG hP (List.all_eq_true.mp zf_byteOf (6, 1, 10, 64) (by decide))
    · have e := zi_eq (x := (Int32.ofNat 11)) (by decide) e
      subst e
      exact zCq_byteOf hG hP (List.all_eq_true.mp zf_byteOf (6, 1, 11, 0) (by decide))
    · have e := zi_eq (x := (Int32.ofNat 12)) (by decide) e
      subst e
      exact zCq_byteOf hG hP (List.all_eq_true.mp zf_byteOf (6, 1, 12, 10) (by decide))
    · have e := zi_eq (x := (Int32.ofNat 13)) (by decide) e
      subst e
      exact zCq_byteOf hG hP (List.all_eq_true.mp zf_byteOf (6, 1, 13, 0) (by decide))
    · have e := zi_eq (x := (Int32.ofNat 14)) (by decide) e
      subst e
      exact zCq_byteOf hG hP (List.all_eq_true.mp zf_byteOf (6, 1, 14, 2) (by decide))
    · have e := zi_eq (x := (Int32.ofNat 15)) (by decide) e
      subst e
      exact zCq_byteOf hG hP (List.all_eq_true.mp zf_byteOf (6, 1, 15, 36) (by decide))
    · have e := zi_eq (x := (Int32.ofNat 16)) (by decide) e
      subst e
      exact zCq_byteOf hG hP (List.all_eq_true.mp zf_byteOf (6, 1, 16, 12) (by decide))
    · have e := zi_eq (x := (Int32.ofNat 17)) (by decide) e
      subst e
      exact zCq_byteOf hG hP (List.all_eq_true.mp zf_byteOf (6, 1, 17, 0) (by decide))
    · have e := zi_eq (x := (Int32.ofNat 18)) (by decide) e
      subst e
      exact zCq_byteOf hG hP (List.all_eq_true.mp zf_byteOf (6, 1, 18, 0) (by decide))
    · have e := zi_eq (x := (Int32.ofNat 19)) (by decide) e
      subst e
      exact zCq_byteOf hG hP (List.all_eq_true.mp zf_byteOf (6, 1, 19, 0) (by decide))
  have em := zi_m1 (p := p2) (by omega)
  have a1 : p2 < Int32.ofNat 20 := (zi_lt p2 20 (by decide)).mpr (by omega)
  have a2 : p2 < 0 := (zi_lt p2 0 (by decide)).mpr (by omega)
  have a3 : ¬ 0 ≤ p2 := fun q => absurd ((zi_le p2 0 (by decide)).mp q) (by omega)
  have key : zz_M l zTs D zcl zFK cy z0 sp (zTys cy) G zYN zCN zMQ zRT 14 78 [.ref 162, .int (Int32.ofNat 1), .int (Int32.ofNat 4294967295 - p2)] zW3 [.int (Int32.ofNat 4294967295)] zW3 ∧ zz_M l zTs D zcl zFK cy z0 sp (zTys cy) G zYN zCN zMQ zRT 15 82 [.ref 171, .int (Int32.ofNat 126), .int (Int32.ofNat 4294967295 - p2)] zWN [.int (Int32.ofNat 4294967295)] zWN := by
    by_cases hq : p2.toInt < -16
    case pos => exact ⟨zM_so_h (d := 13) hG hP (fun q => absurd ((zi_lt (Int32.ofNat 4294967295 - p2) 0 (by decide)).mp q) (by omega)) ((zi_le (Int32.ofNat 4294967295 - p2) 16 (by decide)).mpr (by omega)), zM_ns_n (d := 13) hG hP (Or.inr ((zi_gt (Int32.ofNat 4294967295 - p2) 15 (by decide)).mpr (by omega)))⟩
    generalize Int32.ofNat 4294967295 - p2 = j at em ⊢
    rcases (by omega : j.toInt = 6 ∨ j.toInt = 7 ∨ j.toInt = 8 ∨ j.toInt = 9 ∨ j.toInt = 10 ∨ j.toInt = 11 ∨ j.toInt = 12 ∨ j.toInt = 13 ∨ j.toInt = 14 ∨ j.toInt = 15) with e | e | e | e | e | e | e | e | e | e
    · have e := zi_eq (x := (Int32.ofNat 6)) (by decide) e
      subst e
      obtain ⟨q1, q2⟩ := zz_and (List.all_eq_true.mp zf_nm (1, 126, 6) (by decide))
      exact ⟨zKS hG hP 14 _ _ _ _ _ (zz_endv_ok q1), zKS hG hP 15 _ _ _ _ _ (zz_endv_ok q2)⟩
    · have e := zi_eq (x := (Int32.ofNat 7)) (by decide) e
      subst e
      obtain ⟨q1, q2⟩ := zz_and (List.all_eq_true.mp zf_nm (1, 126, 7) (by decide))
      exact ⟨zKS hG hP 14 _ _ _ _ _ (zz_endv_ok q1), zKS hG hP 15 _ _ _ _ _ (zz_endv_ok q2)⟩
    · have e := zi_eq (x := (Int32.ofNat 8)) (by decide) e
      subst e
      obtain ⟨q1, q2⟩ := zz_and (List.all_eq_true.mp zf_nm (1, 126, 8) (by decide))
      exact ⟨zKS hG hP 14 _ _ _ _ _ (zz_endv_ok q1), zKS hG hP 15 _ _ _ _ _ (zz_endv_ok q2)⟩
    · have e := zi_eq (x := (Int32.ofNat 9)) (by decide) e
      subst e
      obtain ⟨q1, q2⟩ := zz_and (List.all_eq_true.mp zf_nm (1, 126, 9) (by decide))
      exact ⟨zKS hG hP 14 _ _ _ _ _ (zz_endv_ok q1), zKS hG hP 15 _ _ _ _ _ (zz_endv_ok q2)⟩
    · have e := zi_eq (x := (Int32.ofNat 10)) (by decide) e
      subst e
      obtain ⟨q1, q2⟩ := zz_and (List.all_eq_true.mp zf_nm (1, 126, 10) (by decide))
      exact ⟨zKS hG hP 14 _ _ _ _ _ (zz_endv_ok q1), zKS hG hP 15 _ _ _ _ _ (zz_endv_ok q2)⟩
    · have e := zi_eq (x := (Int32.ofNat 11)) (by decide) e
      subst e
      obtain ⟨q1, q2⟩ := zz_and (List.all_eq_true.mp zf_nm (1, 126, 11) (by decide))
      exact ⟨zKS hG hP 14 _ _ _ _ _ (zz_endv_ok q1), zKS hG hP 15 _ _ _ _ _ (zz_endv_ok q2)⟩
    · have e := zi_eq (x := (Int32.ofNat 12)) (by decide) e
      subst e
      obtain ⟨q1, q2⟩ := zz_and (List.all_eq_true.mp zf_nm (1, 126, 12) (by decide))
      exact ⟨zKS hG hP 14 _ _ _ _ _ (zz_endv_ok q1), zKS hG hP 15 _ _ _ _ _ (zz_endv_ok q2)⟩
    · have e := zi_eq (x := (Int32.ofNat 13)) (by decide) e
      subst e
      obtain ⟨q1, q2⟩ := zz_and (List.all_eq_true.mp zf_nm (1, 126, 13) (by decide))
      exact ⟨zKS hG hP 14 _ _ _ _ _ (zz_endv_ok q1), zKS hG hP 15 _ _ _ _ _ (zz_endv_ok q2)⟩
    · have e := zi_eq (x := (Int32.ofNat 14)) (by decide) e
      subst e
      obtain ⟨q1, q2⟩ := zz_and (List.all_eq_true.mp zf_nm (1, 126, 14) (by decide))
      exact ⟨zKS hG hP 14 _ _ _ _ _ (zz_endv_ok q1), zKS hG hP 15 _ _ _ _ _ (zz_endv_ok q2)⟩
    · have e := zi_eq (x := (Int32.ofNat 15)) (by decide) e
      subst e
      obtain ⟨q1, q2⟩ := zz_and (List.all_eq_true.mp zf_nm (1, 126, 15) (by decide))
      exact ⟨zKS hG hP 14 _ _ _ _ _ (zz_endv_ok q1), zKS hG hP 15 _ _ _ _ _ (zz_endv_ok q2)⟩
  exact ⟨_, _, _, _, zHx_808_1 (d := 15) hG hP hE (zXc_byteOf_s1 (d := 9) hG hP hl hE a1 a2 key.1), zMr_byteOf_s1 (d := 13) hG hP (zR_pu (ci := 16)) a3 key.2, zE_x (by decide)⟩
theorem zCb_2 {l : Launch} {D : va_G} {cy : Nat → ClassId} {z0 : Nat} {sp : Nat → Nat} {G : State → Prop} (hG : zz_GF z0 G) (hP : ∀ U, G U → zz_GD zS zS2 zLg z0 sp U) (hl : l.stackTraces = false) (hE : ∀ U, G U → zGX z0 U) (p2 : Int32) : ∃ k b w1 w2, zz_MH l zTs D zcl zFK cy z0 sp (zTys cy) G zy_808 method_11_code 6 (some .int) [(0, 12, 15, 37)] 16 [.ref 0, .int (Int32.ofNat 6), .int (Int32.ofNat 2), .int p2, .ref 328] zW3 [.int k] w1 ∧ zz_M l zTs D zcl zFK cy z0 sp (zTys cy) G zYN zCN zMQ zRT 16 34 [.ref 171, .int (Int32.ofNat 6), .int (Int32.ofNat 2), .int p2] w1 [.int b] w2 ∧ zEnd k b w1 w2 := by
  by_cases h : 12 ≤ p2.toInt
  case pos => exact ⟨_, _, _, _, zHx_808_1 (d := 15) hG hP hE (zXc_byteOf_k2 (d := 9) hG hP hl hE (fun q => absurd ((zi_lt p2 12 (by decide)).mp q) (by omega))), zMr_byteOf_k2 (d := 13) hG hP zR_pu ((zi_le p2 0 (by decide)).mpr (by omega)) ((zi_le p2 12 (by decide)).mpr (by omega)), zE_x (by decide)⟩
  by_cases hn : p2.toInt < -6
  case neg =>
    rcases (by omega : p2.toInt = -6 ∨ p2.toInt = -5 ∨ p2.toInt = -4 ∨ p2.toInt = -3 ∨ p2.toInt = -2 ∨ p2.toInt = -1 ∨ p2.toInt = 0 ∨ p2.toInt = 1 ∨ p2.toInt = 2 ∨ p2.toInt = 3 ∨ p2.toInt = 4 ∨ p2.toInt = 5 ∨ p2.toInt = 6 ∨ p2.toInt = 7 ∨ p2.toInt = 8 ∨ p2.toInt = 9 ∨ p2.toInt = 10 ∨ p2.toInt = 11) with e | e | e | e | e | e | e | e | e | e | e | e | e | e | e | e | e | e
    · have e := zi_eq (x := (Int32.ofNat 4294967290)) (by decide) e
      subst e
      exact zCq_byteOf hG hP (List.all_eq_true.mp zf_byteOf (6, 2, 4294967290, 115) (by decide))
    · have e := zi_eq (x := (Int32.ofNat 4294967291)) (by decide) e
      subst e
      exact zCq_byteOf hG hP (List.all_eq_true.mp zf_byteOf (6, 2, 4294967291, 112) (by decide))
    · have e := zi_eq (x := (Int32.ofNat 4294967292)) (by decide) e
      subst e
      exact zCq_byteOf hG hP (List.all_eq_true.mp zf_byteOf (6, 2, 4294967292, 97) (by decide))
    · have e := zi_eq (x := (Int32.ofNat 4294967293)) (by decide) e
      subst e
      exact zCq_byteOf hG hP (List.all_eq_true.mp zf_byteOf (6, 2, 4294967293, 114) (by decide))
    · have e := zi_eq (x := (Int32.ofNat 4294967294)) (by decide) e
      subst e
      exact zCq_byteOf hG hP (List.all_eq_true.mp zf_byteOf (6, 2, 4294967294, 116) (by decide))
    · have e := zi_eq (x := (Int32.ofNat 4294967295)) (by decide) e
      subst e
      exact zCq_byteOf hG hP (List.all_eq_true.mp zf_byteOf (6, 2, 4294967295, 95) (by decide))
    · have e := zi_eq (x := (Int32.ofNat 0)) (by decide) e
      subst e
      exact zCq_byteOf hG hP (List.all_eq_true.mp zf_byteOf (6, 2, 0, 13) (by decide))
    · have e := zi_eq (x := (Int32.ofNat 1)) (by decide) e
      subst e
      exact zCq_byteOf hG hP (List.all_eq_true.mp zf_byteOf (6, 2, 1, 0) (by decide))
    · have e := zi_eq (x := (Int32.ofNat 2)) (by decide) e
      subst e
      exact zCq_byteOf hG hP (List.all_eq_true.mp zf_byteOf (6, 2, 2, 1) (by decide))
    · have e := zi_eq (x := (Int32.ofNat 3)) (by decide) e
      subst e
      exact zCq_byteOf hG hP (List.all_eq_true.mp zf_byteOf (6, 2, 3, 0) (by decide))
    · have e := zi_eq (x := (Int32.ofNat 4)) (by decide) e
      subst e
      exact zCq_byteOf hG hP (List.all_eq_true.mp zf_byteOf (6, 2, 4, 13) (by decide))
    · have e := zi_eq (x := (Int32.ofNat 5)) (by decide) e
      subst e
      exact zCq_byteOf hG hP (List.all_eq_true.mp zf_byteOf (6, 2, 5, 0) (by decide))
    · have e := zi_eq (x := (Int32.ofNat 6)) (by decide) e
      subst e
      exact zCq_byteOf hG hP (List.all_eq_true.mp zf_byteOf (6, 2, 6, 2) (by decide))
    · have e := zi_eq (x := (Int32.ofNat 7)) (by decide) e
      subst e
      exact zCq_byteOf hG hP (List.all_eq_true.mp zf_byteOf (6, 2, 7, 0) (by decide))
    · have e := zi_eq (x := (Int32.ofNat 8)) (by decide) e
      subst e
      exact zCq_byteOf hG hP (List.all_eq_true.mp zf_byteOf (6, 2, 8, 13) (by decide))
    · have e := zi_eq (x := (Int32.ofNat 9)) (by decide) e
      subst e
      exact zCq_byteOf hG hP (List.all_eq_true.mp zf_byteOf (6, 2, 9, 0) (by decide))
    · have e := zi_eq (x := (Int32.ofNat 10)) (by decide) e
      subst e
      exact zCq_byteOf hG hP (List.all_eq_true.mp zf_byteOf (6, 2, 10, 3) (by decide))
    · have e := zi_eq (x := (Int32.ofNat 11)) (by decide) e
      subst e
      exact zCq_byteOf hG hP (List.all_eq_true.mp zf_byteOf (6, 2, 11, 0) (by decide))
  have em := zi_m1 (p := p2) (by omega)
  have a1 : p2 < Int32.ofNat 12 := (zi_lt p2 12 (by decide)).mpr (by omega)
  have a2 : p2 < 0 := (zi_lt p2 0 (by decide)).mpr (by omega)
  have a3 : ¬ 0 ≤ p2 := fun q => absurd ((zi_le p2 0 (by decide)).mp q) (by omega)
  have key : zz_M l zTs D zcl zFK cy z0 sp (zTys cy) G zYN zCN zMQ zRT 14 78 [.ref 162, .int (Int32.ofNat 2), .int (Int32.ofNat 4294967295 - p2)] zW3 [.int (Int32.ofNat 4294967295)] zW3 ∧ zz_M l zTs D zcl zFK cy z0 sp (zTys cy) G zYN zCN zMQ zRT 15 82 [.ref 171, .int (Int32.ofNat 128), .int (Int32.ofNat 4294967295 - p2)] zWN [.int (Int32.ofNat 4294967295)] zWN := by
    by_cases hq : p2.toInt < -16
    case pos => exact ⟨zM_so_h (d := 13) hG hP (fun q => absurd ((zi_lt (Int32.ofNat 4294967295 - p2) 0 (by decide)).mp q) (by omega)) ((zi_le (Int32.ofNat 4294967295 - p2) 16 (by decide)).mpr (by omega)), zM_ns_n (d := 13) hG hP (Or.inr ((zi_gt (Int32.ofNat 4294967295 - p2) 15 (by decide)).mpr (by omega)))⟩
    generalize Int32.ofNat 4294967295 - p2 = j at em ⊢
    rcases (by omega : j.toInt = 6 ∨ j.toInt = 7 ∨ j.toInt = 8 ∨ j.toInt = 9 ∨ j.toInt = 10 ∨ j.toInt = 11 ∨ j.toInt = 12 ∨ j.toInt = 13 ∨ j.toInt = 14 ∨ j.toInt = 15) with e | e | e | e | e | e | e | e | e | e
    · have e := zi_eq (x := (Int32.ofNat 6)) (by decide) e
      subst e
      obtain ⟨q1, q2⟩ := zz_and (List.all_eq_true.mp zf_nm (2, 128, 6) (by decide))
      exact ⟨zKS hG hP 14 _ _ _ _ _ (zz_endv_ok q1), zKS hG hP 15 _ _ _ _ _ (zz_endv_ok q2)⟩
    · have e := zi_eq (x := (Int32.ofNat 7)) (by decide) e
      subst e
      obtain ⟨q1, q2⟩ := zz_and (List.all_eq_true.mp zf_nm (2, 128, 7) (by decide))
      exact ⟨zKS hG hP 14 _ _ _ _ _ (zz_endv_ok q1), zKS hG hP 15 _ _ _ _ _ (zz_endv_ok q2)⟩
    · have e := zi_eq (x := (Int32.ofNat 8)) (by decide) e
      subst e
      obtain ⟨q1, q2⟩ := zz_and (List.all_eq_true.mp zf_nm (2, 128, 8) (by decide))
      exact ⟨zKS hG hP 14 _ _ _ _ _ (zz_endv_ok q1), zKS hG hP 15 _ _ _ _ _ (zz_endv_ok q2)⟩
    · have e := zi_eq (x := (Int32.ofNat 9)) (by decide) e
      subst e
      obtain ⟨q1, q2⟩ := zz_and (List.all_eq_true.mp zf_nm (2, 128, 9) (by decide))
      exact ⟨zKS hG hP 14 _ _ _ _ _ (zz_endv_ok q1), zKS hG hP 15 _ _ _ _ _ (zz_endv_ok q2)⟩
    · have e := zi_eq (x := (Int32.ofNat 10)) (by decide) e
      subst e
      obtain ⟨q1, q2⟩ := zz_and (List.all_eq_true.mp zf_nm (2, 128, 10) (by decide))
      exact ⟨zKS hG hP 14 _ _ _ _ _ (zz_endv_ok q1), zKS hG hP 15 _ _ _ _ _ (zz_endv_ok q2)⟩
    · have e := zi_eq (x := (Int32.ofNat 11)) (by decide) e
      subst e
      obtain ⟨q1, q2⟩ := zz_and (List.all_eq_true.mp zf_nm (2, 128, 11) (by decide))
      exact ⟨zKS hG hP 14 _ _ _ _ _ (zz_endv_ok q1), zKS hG hP 15 _ _ _ _ _ (zz_endv_ok q2)⟩
    · have e := zi_eq (x := (Int32.ofNat 12)) (by decide) e
      subst e
      obtain ⟨q1, q2⟩ := zz_and (List.all_eq_true.mp zf_nm (2, 128, 12) (by decide))
      exact ⟨zKS hG hP 14 _ _ _ _ _ (zz_endv_ok q1), zKS hG hP 15 _ _ _ _ _ (zz_endv_ok q2)⟩
    · have e := zi_eq (x := (Int32.ofNat 13)) (by decide) e
      subst e
      obtain ⟨q1, q2⟩ := zz_and (List.all_eq_true.mp zf_nm (2, 128, 13) (by decide))
      exact ⟨zKS hG hP 14 _ _ _ _ _ (zz_endv_ok q1), zKS hG hP 15 _ _ _ _ _ (zz_endv_ok q2)⟩
    · have e := zi_eq (x := (Int32.ofNat 14)) (by decide) e
      subst e
      obtain ⟨q1, q2⟩ := zz_and (List.all_eq_true.mp zf_nm (2, 128, 14) (by decide))
      exact ⟨zKS hG hP 14 _ _ _ _ _ (zz_endv_ok q1), zKS hG hP 15 _ _ _ _ _ (zz_endv_ok q2)⟩
    · have e := zi_eq (x := (Int32.ofNat 15)) (by decide) e
      subst e
      obtain ⟨q1, q2⟩ := zz_and (List.all_eq_true.mp zf_nm (2, 128, 15) (by decide))
      exact ⟨zKS hG hP 14 _ _ _ _ _ (zz_endv_ok q1), zKS hG hP 15 _ _ _ _ _ (zz_endv_ok q2)⟩
  exact ⟨_, _, _, _, zHx_808_1 (d := 15) hG hP hE (zXc_byteOf_s2 (d := 9) hG hP hl hE a1 a2 key.1), zMr_byteOf_s2 (d := 13) hG hP (zR_pu (ci := 16)) a3 key.2, zE_x (by decide)⟩
theorem zC_byteOf {l : Launch} {D : va_G} {cy : Nat → ClassId} {z0 : Nat} {sp : Nat → Nat} {G : State → Prop} (hG : zz_GF z0 G) (hP : ∀ U, G U → zz_GD zS zS2 zLg z0 sp U) (hl : l.stackTraces = false) (hE : ∀ U, G U → zGX z0 U) (p0 : Int32) (p1 : Int32) (p2 : Int32) : ∃ k b w1 w2, zz_MH l zTs D zcl zFK cy z0 sp (zTys cy) G zy_808 method_11_code 6 (some .int) [(0, 12, 15, 37)] 16 [.ref 0, .int p0, .int p1, .int p2, .ref 328] zW3 [.int k] w1 ∧ zz_M l zTs D zcl zFK cy z0 sp (zTys cy) G zYN zCN zMQ zRT 16 34 [.ref 171, .int p0, .int p1, .int p2] w1 [.int b] w2 ∧ zEnd k b w1 w2 := by
  by_cases h6 : p0 = Int32.ofNat 6
  case neg => exact ⟨_, _, _, _, zHx_808_1 (d := 15) hG hP hE (zXc_byteOf_n (d := 8) hG hP hl hE h6), zMr_byteOf_n (d := 13) hG hP zR_pu h6, zE_x (by decide)⟩
  subst h6
  by_cases ha : p1.toInt < 0
  case pos => exact ⟨_, _, _, _, zHx_808_1 (d := 15) hG hP hE (zXc_byteOf_i (d := 9) hG hP hl hE ((zi_lt p1 0 (by decide)).mpr ha)), zMr_byteOf_i (d := 13) hG hP zR_pu (Or.inl ((zi_lt p1 0 (by decide)).mpr ha)), zE_x (by decide)⟩
  by_cases hb : 3 ≤ p1.toInt
  case pos => exact ⟨_, _, _, _, zHx_808_1 (d := 15) hG hP hE (zXc_byteOf_j (d := 9) hG hP hl hE (fun q => absurd ((zi_lt p1 0 (by decide)).mp q) (by omega)) (fun q => absurd ((zi_lt p1 3 (by decide)).mp q) (by omega))), zMr_byteOf_i (d := 13) hG hP zR_pu (Or.inr ((zi_gt p1 2 (by decide)).mpr (by omega))), zE_x (by decide)⟩
  have h1 : ¬ p1 < 0 := (fun q => absurd ((zi_lt p1 0 (by decide)).mp q) (by omega))
  have h2 : p1 < Int32.ofNat 3 := (zi_lt p1 3 (by decide)).mpr (by omega)
  have h3 : ¬ Int32.ofNat 2 < p1 := (fun q => absurd ((zi_gt p1 2 (by decide)).mp q) (by omega))
  rcases (by omega : p1.toInt = 0 ∨ p1.toInt = 1 ∨ p1.toInt = 2) with e1 | e1 | e1
  · have e1 := zi_eq (x := (Int32.ofNat 0)) (by decide) e1
    subst e1
    exact zCb_0 hG hP hl hE p2
  · have e1 := zi_eq (x := (Int32.ofNat 1)) (by decide) e1
    subst e1
    exact zCb_1 hG hP hl hE p2
  · have e1 := zi_eq (x := (Int32.ofNat 2)) (by decide) e1
    subst e1
    exact zCb_2 hG hP hl hE p2
theorem zC_input {l : Launch} {D : va_G} {cy : Nat → ClassId} {z0 : Nat} {sp : Nat → Nat} {G : State → Prop} (hG : zz_GF z0 G) (hP : ∀ U, G U → zz_GD zS zS2 zLg z0 sp U) (hl : l.stackTraces = false) (hE : ∀ U, G U → zGX z0 U) (p0 : Int32) : ∃ k b w1 w2, zz_MH l zTs D zcl zFK cy z0 sp (zTys cy) G zy_811 method_14_code 4 (some .int) [(0, 9, 12, 15)] 16 [.ref 0, .int p0, .ref 328] zW3 [.int k] w1 ∧ zz_M l zTs D zcl zFK cy z0 sp (zTys cy) G zYN zCN zMQ zRT 16 37 [.ref 171, .int p0] w1 [.int b] w2 ∧ zEnd k b w1 w2 := by
  have hc : zCl (zz_up (zz_up zW3 3 (0, 0, 64, (zz_to 32 zc_3 (zz_nI (Int32.ofNat 0)) (zz_nI p0)))) 0 (3, 1, 17, (zz_to 64 zc_0 5 (zz_nI (Int32.ofNat 1))))) 0 := zCl_c (zz_up_sh (zz_up_sh zs3)) zn3_1 zn3_2 (fun i a b => (zz_up_ne (zz_up_sh zs3) (by decide) (by omega)).trans (zz_up_ne zs3 (by decide) (by omega)))
  have hw := zCl_R (a := Int32.ofNat 1) hc
  have hm := zR_has hw zh_171 (by decide) (by decide)
  exact ⟨_, _, _, _, zHr_811 (d := 15) hG hP hc (zMc_input (d := 14) hG hP), zMr_input (d := 14) hG hP hw, zE_r hc (zz_up_sh (zz_up_sh (zz_up_sh hw.1))) (zz_has_up (zz_up_sh (zz_up_sh hw.1)) (zz_has_ne (zz_up_sh hw.1) (by decide) (zz_has_up hw.1 hm) (by decide))) ((zz_gn (by decide)).trans (zz_gs2 (by decide))) ((zz_up_ne (zz_up_sh (zz_up_sh hw.1)) (by decide) (by decide)).trans ((zz_up_ne (zz_up_sh hw.1) (by decide) (by decide)).trans (zz_up_ne hw.1 (by decide) (by decide)))) rfl rfl⟩
theorem zC_listing {l : Launch} {D : va_G} {cy : Nat → ClassId} {z0 : Nat} {sp : Nat → Nat} {G : State → Prop} (hG : zz_GF z0 G) (hP : ∀ U, G U → zz_GD zS zS2 zLg z0 sp U) (hl : l.stackTraces = false) (hE : ∀ U, G U → zGX z0 U) (p0 : Int32) (p1 : Int32) : ∃ k b w1 w2, zz_MH l zTs D zcl zFK cy z0 sp (zTys cy) G zy_818 method_21_code 5 (some .int) [(0, 10, 13, 73)] 16 [.ref 0, .int p0, .int p1, .ref 328] zW3 [.int k] w1 ∧ zz_M l zTs D zcl zFK cy z0 sp (zTys cy) G zYN zCN zMQ zRT 16 47 [.ref 171, .int p0, .int p1] w1 [.int b] w2 ∧ zEnd k b w1 w2 := by
  by_cases h : p1.toInt < 0
  · have h1 : ¬ 0 ≤ p1 := fun q => absurd ((zi_le p1 0 (by decide)).mp q) (by omega)
    exact ⟨_, _, _, _, zHx_818_1 (d := 15) hG hP hE (zXc_listing_n (d := 9) hG hP hl hE h1), zMr_listing_n (d := 14) hG hP zR_pu h1, zE_x (by decide)⟩
  · obtain ⟨e, h2⟩ := zi_nat (p := p1) (by omega)
    generalize p1.toInt.toNat = k at e h2
    subst e
    by_cases hf : ∃ f, zcK p0 f
    · obtain ⟨f, hf⟩ := hf
      obtain ⟨w, hM, hB⟩ := zMc_listing_y (l := l) (D := D) (cy := cy) (sp := sp) hG hP hf h2
      have hc := zCl_B hB
      obtain ⟨a1, a2⟩ := zNm hf.2.1
      obtain ⟨w2, hR, hQ⟩ := zMr_lst_y (d := 10) (l := l) (D := D) (cy := cy) (sp := sp) hG hP (zCl_R (a := zPk (zNc f ++ zOp (zFo f) p0 ++ [10]) k) hc) (p0 := p0) h2 (zK_r hf)
      rw [← a1, ← a2] at hR
      exact ⟨_, _, _, _, zHr_818 (d := 15) hG hP hc hM, hR, zE_Q hc hQ⟩
    · have hn : ∀ f, ¬ zcK p0 f := fun f q => hf ⟨f, q⟩
      obtain ⟨w, hM, hB⟩ := zMc_listing_n (l := l) (D := D) (cy := cy) (sp := sp) hG hP hn h2
      have hc := zCl_B hB
      obtain ⟨w2, hR, hQ⟩ := zMr_lst_n (d := 10) (l := l) (D := D) (cy := cy) (sp := sp) hG hP (zCl_R (a := zPk ([46, 119, 111, 114, 100, 32] ++ zdc p0 ++ [10]) k) hc) (p0 := p0) h2 (fun g q => hf (zK_c q))
      rw [zNm_77] at hR
      exact ⟨_, _, _, _, zHr_818 (d := 15) hG hP hc hM, hR, zE_Q hc hQ⟩
