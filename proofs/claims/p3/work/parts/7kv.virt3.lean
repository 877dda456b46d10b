/-! VIRTUAL ROWS in the check: none ahead of place 0; one place on; one place back; bounds between two places; one place between two -/
noncomputable section
def zk_v0 (X : zk_St) (t : Nat) (n : zl_E) (h : List Nat) : Option zk_St := cond (Nat.blt t 1000000 && zl_en X.1.2.2.2.1 X.1.2.2.2.2 h n) (some (X.1, (1000000 + t, zl_mul 1048576 n, zl_con 0) :: X.2.1, X.2.2)) none
theorem zk_v0_ok {PT : Nat → zz_W → Prop} {I : zz_W → Prop} {X Y : zk_St} {t : Nat} {n : zl_E} {h : List Nat} (hh : zk_v0 X t n h = some Y) {s : Nat → Int} {f : zz_F} (hG : zk_G2 PT I s X f) : zk_G2 PT I s Y f ∧ X.1.2.2.2.1.length ≤ Y.1.2.2.2.1.length := by
  obtain ⟨hb, hh⟩ := zz_cond hh
  cases hh
  obtain ⟨ht, hb⟩ := zz_and hb
  obtain ⟨g1, k1, k2⟩ := hG
  have c1 := zl_en_ok g1.2.2.2.1 g1.2.2.2.2.1 hb
  refine ⟨⟨g1, fun y hy => ?_, k2⟩, Nat.le_refl _⟩
  rcases List.mem_cons.mp hy with ey | hy
  · subst ey
    show 0 ≤ zl_ev s (zl_mul 1048576 n) ∧ zk_xe f.2.2.2 (1000000 + t) (zl_ev s (zl_mul 1048576 n)) = zl_ev s (zl_con 0)
    rw [zk_xe_v (zz_blt ht) (e := 0) (n := zl_ev s n) (by rw [zl_mul_ev]; omega) (by decide) (by decide), zl_con_ev, zl_mul_ev]
    exact ⟨by omega, rfl⟩
  · exact k1 y hy
/-- the virtual row of an entry, its place decoded -/
def zk_vd (B : List (Int × Int)) (C : List zl_E) (x : zk_E1) (e n : zl_E) (h1 h2 : List Nat) : Bool := (!(Nat.blt x.1 1000000) && Nat.blt x.1 2000000) && (zl_nul (zl_sub x.2.1 (zl_add e (zl_mul 1048576 n))) && (zl_en B C h1 e && zl_en B C h2 (zl_sub (zl_con 1048574) e)))
theorem zk_vd_ok {s : Nat → Int} {B : List (Int × Int)} {C : List zl_E} (hB : zl_in s B) (hC : zk_cs s C) {x : zk_E1} {e n : zl_E} {h1 h2 : List Nat} (h : zk_vd B C x e n h1 h2 = true) : (x.1 = 1000000 + (x.1 - 1000000) ∧ x.1 - 1000000 < 1000000) ∧ zl_ev s x.2.1 = zl_ev s e + 1048576 * zl_ev s n ∧ 0 ≤ zl_ev s e ∧ zl_ev s e ≤ 1048574 := by
  unfold zk_vd at h
  obtain ⟨a, h⟩ := zz_and h
  obtain ⟨a, a2⟩ := zz_and a
  have a2 := zz_blt a2
  obtain ⟨b, h⟩ := zz_and h
  obtain ⟨c, d⟩ := zz_and h
  have b := zl_nul_ok (s := s) b
  rw [zl_sub_ev, zl_add_ev, zl_mul_ev] at b
  have c := zl_en_ok hB hC c
  have d := zl_en_ok hB hC d
  rw [zl_sub_ev, zl_con_ev] at d
  refine ⟨⟨?_, by omega⟩, by omega, c, by omega⟩
  by_cases hx : x.1 < 1000000
  · rw [show Nat.blt x.1 1000000 = true from Nat.ble_eq.mpr hx] at a
    cases a
  · omega
/-- the value at a place -/
def zk_vv (X : zk_St) (t k : Nat) (e n : zl_E) (hs : List (List Nat)) : Option zl_E := match zk_esm X.2.1 e (zv_T t).1 with
  | some vs => zv_cs X.1.2.2.2.1 X.1.2.2.2.2 (e :: (vs ++ [n])) (zv_T t).2 hs k
  | none => none
theorem zk_vv_ok {X : zk_St} {t k : Nat} {e n v : zl_E} {hs : List (List Nat)} {s : Nat → Int} {w : zz_W} (hB : zl_in s X.1.2.2.2.1) (hC : zk_cs s X.1.2.2.2.2) (hE : zk_eF s X.2.1 w) (h0 : 0 ≤ zl_ev s e) (h : zk_vv X t k e n hs = some v) : zv_F (zv_T t) w (zl_ev s n) ((zl_ev s e).toNat + 1) = zv_F (zv_T t) w (zl_ev s n) (zl_ev s e).toNat + zl_ev s v := by
  unfold zk_vv at h
  split at h
  · rename_i vs hv
    have hj : ((zl_ev s e).toNat : Int) = zl_ev s e := by omega
    have hl : zk_sl2 s (e :: (vs ++ [n])) (zv_al w (zv_T t).1 (zl_ev s n) (zl_ev s e).toNat) := zk_sl2_cons hj (zk_sl2_app (zk_esm_ok hE hj hv) (zk_sl2_cons rfl zk_sl2_nil))
    have h1 := zv_cs_ok hB hC h
    rw [zk_sl2_u hl] at h1
    rw [h1]
    rfl
  · cases h
/-- one place on -/
def zk_vo (X : zk_St) (a k : Nat) (e n : zl_E) (hs : List (List Nat)) : Option zk_St := match X.2.1[a]? with
  | some x => match zk_vv X (x.1 - 1000000) k e n (hs.drop 2) with
    | some v => cond (zk_vd X.1.2.2.2.1 X.1.2.2.2.2 x e n (hs.getD 0 []) (hs.getD 1 [])) (some (X.1, (x.1, zl_add x.2.1 (zl_con 1), zl_add x.2.2 v) :: X.2.1, X.2.2)) none
    | none => none
  | none => none
theorem zk_vo_ok {PT : Nat → zz_W → Prop} {I : zz_W → Prop} {X Y : zk_St} {a k : Nat} {e n : zl_E} {hs : List (List Nat)} (hh : zk_vo X a k e n hs = some Y) {s : Nat → Int} {f : zz_F} (hG : zk_G2 PT I s X f) : zk_G2 PT I s Y f ∧ X.1.2.2.2.1.length ≤ Y.1.2.2.2.1.length := by
  unfold zk_vo at hh
  split at hh
  · rename_i x hx
    split at hh
    · rename_i v hv
      obtain ⟨hb, hh⟩ := zz_cond hh
      cases hh
      obtain ⟨g1, k1, k2⟩ := hG
      obtain ⟨⟨d1, d0⟩, d2, d3, d4⟩ := zk_vd_ok g1.2.2.2.1 g1.2.2.2.2.1 hb
      have h1 := zk_vv_ok g1.2.2.2.1 g1.2.2.2.2.1 k1 d3 hv
      obtain ⟨x1, x2⟩ := k1 x (List.mem_of_getElem? hx)
      refine ⟨⟨g1, fun y hy => ?_, k2⟩, Nat.le_refl _⟩
      rcases List.mem_cons.mp hy with ey | hy
      · subst ey
        show 0 ≤ zl_ev s (zl_add x.2.1 (zl_con 1)) ∧ zk_xe f.2.2.2 x.1 (zl_ev s (zl_add x.2.1 (zl_con 1))) = zl_ev s (zl_add x.2.2 v)
        rw [zl_add_ev, zl_add_ev, zl_con_ev]
        rw [d1, zk_xe_v d0 d2 d3 (by omega)] at x2
        refine ⟨by omega, ?_⟩
        rw [d1, zk_xe_v d0 (e := zl_ev s e + 1) (n := zl_ev s n) (by omega) (by omega) (by omega), show (zl_ev s e + 1).toNat = (zl_ev s e).toNat + 1 by omega, h1, x2]
      · exact k1 y hy
    · cases hh
  · cases hh
/-- one place back -/
def zk_vr (X : zk_St) (a k : Nat) (e n : zl_E) (hs : List (List Nat)) : Option zk_St := match X.2.1[a]? with
  | some x => match zk_vv X (x.1 - 1000000) k e n (hs.drop 2) with
    | some v => cond (zk_vd X.1.2.2.2.1 X.1.2.2.2.2 (x.1, zl_sub x.2.1 (zl_con 1), x.2.2) e n (hs.getD 0 []) (hs.getD 1 [])) (some (X.1, (x.1, zl_sub x.2.1 (zl_con 1), zl_sub x.2.2 v) :: X.2.1, X.2.2)) none
    | none => none
  | none => none
theorem zk_vr_ok {PT : Nat → zz_W → Prop} {I : zz_W → Prop} {X Y : zk_St} {a k : Nat} {e n : zl_E} {hs : List (List Nat)} (hh : zk_vr X a k e n hs = some Y) {s : Nat → Int} {f : zz_F} (hG : zk_G2 PT I s X f) : zk_G2 PT I s Y f ∧ X.1.2.2.2.1.length ≤ Y.1.2.2.2.1.length := by
  unfold zk_vr at hh
  split at hh
  · rename_i x hx
    split at hh
    · rename_i v hv
      obtain ⟨hb, hh⟩ := zz_cond hh
      cases hh
      obtain ⟨g1, k1, k2⟩ := hG
      obtain ⟨⟨d1, d0⟩, d2, d3, d4⟩ := zk_vd_ok g1.2.2.2.1 g1.2.2.2.2.1 hb
      have d1 : x.1 = 1000000 + (x.1 - 1000000) := d1
      have d0 : x.1 - 1000000 < 1000000 := d0
      have d2 : zl_ev s (zl_sub x.2.1 (zl_con 1)) = zl_ev s e + 1048576 * zl_ev s n := d2
      rw [zl_sub_ev, zl_con_ev] at d2
      have h1 := zk_vv_ok g1.2.2.2.1 g1.2.2.2.2.1 k1 d3 hv
      obtain ⟨x1, x2⟩ := k1 x (List.mem_of_getElem? hx)
      refine ⟨⟨g1, fun y hy => ?_, k2⟩, Nat.le_refl _⟩
      rcases List.mem_cons.mp hy with ey | hy
      · subst ey
        show 0 ≤ zl_ev s (zl_sub x.2.1 (zl_con 1)) ∧ zk_xe f.2.2.2 x.1 (zl_ev s (zl_sub x.2.1 (zl_con 1))) = zl_ev s (zl_sub x.2.2 v)
        rw [zl_sub_ev, zl_sub_ev, zl_con_ev]
        rw [d1, zk_xe_v d0 (e := zl_ev s e + 1) (n := zl_ev s n) (by omega) (by omega) (by omega), show (zl_ev s e + 1).toNat = (zl_ev s e).toNat + 1 by omega, h1] at x2
        refine ⟨by omega, ?_⟩
        rw [d1, zk_xe_v d0 d2 d3 (by omega)]
        omega
      · exact k1 y hy
    · cases hh
  · cases hh
/-- between two places -/
def zk_vm (X : zk_St) (a b lo hi : Nat) (e1 e2 n : zl_E) (hs : List (List Nat)) : Option zk_St := match X.2.1[a]?, X.2.1[b]? with
  | some x, some y => cond ((Nat.beq x.1 y.1 && zv_bd (-(lo : Int)) (hi : Int) (zv_T (x.1 - 1000000)).2) && (zk_vd X.1.2.2.2.1 X.1.2.2.2.2 x e1 n (hs.getD 0 []) (hs.getD 1 []) && (zk_vd X.1.2.2.2.1 X.1.2.2.2.2 y e2 n (hs.getD 2 []) (hs.getD 3 []) && zl_en X.1.2.2.2.1 X.1.2.2.2.2 (hs.getD 4 []) (zl_sub e2 e1)))) (some ((X.1.1, X.1.2.1, X.1.2.2.1, X.1.2.2.2.1, zl_add (zl_sub y.2.2 x.2.2) (zl_mul (lo : Int) (zl_sub e2 e1)) :: zl_sub (zl_mul (hi : Int) (zl_sub e2 e1)) (zl_sub y.2.2 x.2.2) :: X.1.2.2.2.2), X.2.1, X.2.2)) none
  | _, _ => none
theorem zk_vm_ok {PT : Nat → zz_W → Prop} {I : zz_W → Prop} {X Y : zk_St} {a b lo hi : Nat} {e1 e2 n : zl_E} {hs : List (List Nat)} (hh : zk_vm X a b lo hi e1 e2 n hs = some Y) {s : Nat → Int} {f : zz_F} (hG : zk_G2 PT I s X f) : zk_G2 PT I s Y f ∧ X.1.2.2.2.1.length ≤ Y.1.2.2.2.1.length := by
  unfold zk_vm at hh
  split at hh
  · rename_i x y hx hy
    obtain ⟨hb, hh⟩ := zz_cond hh
    cases hh
    obtain ⟨b1, hb⟩ := zz_and hb
    obtain ⟨b0, b1⟩ := zz_and b1
    obtain ⟨b2, hb⟩ := zz_and hb
    obtain ⟨b3, b4⟩ := zz_and hb
    obtain ⟨⟨g1, g2, g3, g4, g5, g6⟩, k1, k2⟩ := hG
    obtain ⟨⟨d1, d0⟩, d2, d3, d4⟩ := zk_vd_ok g4 g5 b2
    obtain ⟨⟨c1, c0⟩, c2, c3, c4⟩ := zk_vd_ok g4 g5 b3
    have b4 := zl_en_ok g4 g5 b4
    rw [zl_sub_ev] at b4
    obtain ⟨-, x2⟩ := k1 x (List.mem_of_getElem? hx)
    obtain ⟨-, y2⟩ := k1 y (List.mem_of_getElem? hy)
    rw [← zz_beq b0, d1, zk_xe_v d0 c2 c3 (by omega)] at y2
    rw [d1, zk_xe_v d0 d2 d3 (by omega)] at x2
    have h1 := zv_F_bd (w := f.2.2.2) (n := zl_ev s n) b1 (a := (zl_ev s e1).toNat) ((zl_ev s e2).toNat - (zl_ev s e1).toNat)
    rw [show (zl_ev s e1).toNat + ((zl_ev s e2).toNat - (zl_ev s e1).toNat) = (zl_ev s e2).toNat by omega, x2, y2, show (((zl_ev s e2).toNat - (zl_ev s e1).toNat : Nat) : Int) = zl_ev s e2 - zl_ev s e1 by omega, Int.neg_mul] at h1
    refine ⟨⟨⟨g1, g2, g3, g4, fun c hc => ?_, g6⟩, k1, k2⟩, Nat.le_refl _⟩
    rcases List.mem_cons.mp hc with hc | hc
    · rw [hc, zl_add_ev, zl_sub_ev, zl_mul_ev, zl_sub_ev]
      omega
    · rcases List.mem_cons.mp hc with hc | hc
      · rw [hc, zl_sub_ev, zl_mul_ev, zl_sub_ev, zl_sub_ev]
        omega
      · exact g5 c hc
  · cases hh
/-- a place between two, where no value is below 0 -/
def zk_vt (X : zk_St) (a b k hi : Nat) (e1 e2 j n : zl_E) (hs : List (List Nat)) : Option zk_St := match X.2.1[a]?, X.2.1[b]? with
  | some x, some y => match zk_vv X (x.1 - 1000000) k j n (hs.drop 6) with
    | some v => cond ((Nat.beq x.1 y.1 && zv_bd 0 (hi : Int) (zv_T (x.1 - 1000000)).2) && (zk_vd X.1.2.2.2.1 X.1.2.2.2.2 x e1 n (hs.getD 0 []) (hs.getD 1 []) && (zk_vd X.1.2.2.2.1 X.1.2.2.2.2 y e2 n (hs.getD 2 []) (hs.getD 3 []) && (zl_en X.1.2.2.2.1 X.1.2.2.2.2 (hs.getD 4 []) (zl_sub j e1) && zl_en X.1.2.2.2.1 X.1.2.2.2.2 (hs.getD 5 []) (zl_sub (zl_sub e2 j) (zl_con 1)))))) (some ((X.1.1, X.1.2.1, X.1.2.2.1, X.1.2.2.2.1, zl_sub (zl_sub y.2.2 x.2.2) v :: X.1.2.2.2.2), X.2.1, X.2.2)) none
    | none => none
  | _, _ => none
theorem zk_vt_ok {PT : Nat → zz_W → Prop} {I : zz_W → Prop} {X Y : zk_St} {a b k hi : Nat} {e1 e2 j n : zl_E} {hs : List (List Nat)} (hh : zk_vt X a b k hi e1 e2 j n hs = some Y) {s : Nat → Int} {f : zz_F} (hG : zk_G2 PT I s X f) : zk_G2 PT I s Y f ∧ X.1.2.2.2.1.length ≤ Y.1.2.2.2.1.length := by
  unfold zk_vt at hh
  split at hh
  · rename_i x y hx hy
    split at hh
    · rename_i v hv
      obtain ⟨hb, hh⟩ := zz_cond hh
      cases hh
      obtain ⟨b1, hb⟩ := zz_and hb
      obtain ⟨b0, b1⟩ := zz_and b1
      obtain ⟨b2, hb⟩ := zz_and hb
      obtain ⟨b3, hb⟩ := zz_and hb
      obtain ⟨b4, b5⟩ := zz_and hb
      obtain ⟨⟨g1, g2, g3, g4, g5, g6⟩, k1, k2⟩ := hG
      obtain ⟨⟨d1, d0⟩, d2, d3, d4⟩ := zk_vd_ok g4 g5 b2
      obtain ⟨⟨c1, c0⟩, c2, c3, c4⟩ := zk_vd_ok g4 g5 b3
      have b4 := zl_en_ok g4 g5 b4
      have b5 := zl_en_ok g4 g5 b5
      rw [zl_sub_ev] at b4
      rw [zl_sub_ev, zl_sub_ev, zl_con_ev] at b5
      obtain ⟨-, x2⟩ := k1 x (List.mem_of_getElem? hx)
      obtain ⟨-, y2⟩ := k1 y (List.mem_of_getElem? hy)
      rw [← zz_beq b0, d1, zk_xe_v d0 c2 c3 (by omega)] at y2
      rw [d1, zk_xe_v d0 d2 d3 (by omega)] at x2
      have h1 := zv_F_bd (w := f.2.2.2) (n := zl_ev s n) b1 (a := (zl_ev s e1).toNat) ((zl_ev s j).toNat - (zl_ev s e1).toNat)
      have h2 := zv_F_bd (w := f.2.2.2) (n := zl_ev s n) b1 (a := (zl_ev s j).toNat + 1) ((zl_ev s e2).toNat - ((zl_ev s j).toNat + 1))
      have h3 := zk_vv_ok (X := X) (w := f.2.2.2) g4 g5 k1 (by omega) hv
      rw [show (zl_ev s e1).toNat + ((zl_ev s j).toNat - (zl_ev s e1).toNat) = (zl_ev s j).toNat by omega, x2, Int.zero_mul] at h1
      rw [show (zl_ev s j).toNat + 1 + ((zl_ev s e2).toNat - ((zl_ev s j).toNat + 1)) = (zl_ev s e2).toNat by omega, y2, Int.zero_mul, h3] at h2
      refine ⟨⟨⟨g1, g2, g3, g4, fun c hc => ?_, g6⟩, k1, k2⟩, Nat.le_refl _⟩
      rcases List.mem_cons.mp hc with hc | hc
      · rw [hc, zl_sub_ev, zl_sub_ev]
        omega
      · exact g5 c hc
    · cases hh
  · cases hh
/-- all of them: which, numbers; sums; hints -/
def zk_vx (X : zk_St) (l : List Nat) (es : List zl_E) (hs : List (List Nat)) : Option zk_St := match l.getD 0 0 with
  | 0 => zk_v0 X (l.getD 1 0) (es.getD 0 (zl_con 0)) (hs.getD 0 [])
  | 1 => zk_vo X (l.getD 1 0) (l.getD 2 0) (es.getD 0 (zl_con 0)) (es.getD 1 (zl_con 0)) hs
  | 2 => zk_vr X (l.getD 1 0) (l.getD 2 0) (es.getD 0 (zl_con 0)) (es.getD 1 (zl_con 0)) hs
  | 3 => zk_vm X (l.getD 1 0) (l.getD 2 0) (l.getD 3 0) (l.getD 4 0) (es.getD 0 (zl_con 0)) (es.getD 1 (zl_con 0)) (es.getD 2 (zl_con 0)) hs
  | 4 => zk_vt X (l.getD 1 0) (l.getD 2 0) (l.getD 3 0) (l.getD 4 0) (es.getD 0 (zl_con 0)) (es.getD 1 (zl_con 0)) (es.getD 2 (zl_con 0)) (es.getD 3 (zl_con 0)) hs
  | _ => zk_sgx X l es
theorem zk_vx_ok {PT : Nat → zz_W → Prop} {I : zz_W → Prop} {X Y : zk_St} {l : List Nat} {es : List zl_E} {hs : List (List Nat)} (hh : zk_vx X l es hs = some Y) {s : Nat → Int} {f : zz_F} (hG : zk_G2 PT I s X f) : zk_G2 PT I s Y f ∧ X.1.2.2.2.1.length ≤ Y.1.2.2.2.1.length := by
  unfold zk_vx at hh
  split at hh
  · exact zk_v0_ok hh hG
  · exact zk_vo_ok hh hG
  · exact zk_vr_ok hh hG
  · exact zk_vm_ok hh hG
  · exact zk_vt_ok hh hG
  · exact zk_sgx_ok hh hG
end
