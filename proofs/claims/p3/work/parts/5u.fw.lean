/-! WALKS, step by step forward -/
section ZFW
variable {l : Launch} {Ts : List Cond} {D : va_G} {cl : List vw_C} {fk : Nat → Nat → Nat} {cy : Nat → ClassId} {z0 : Nat} {sp : Nat → Nat} {tys : List (ClassId × FieldType)} {G : State → Prop} {own mn : String} {nL : Nat} {cc : ByteArray} {d : Nat} {pc : Nat}
variable {yn : Nat → MethodName} {cn : Nat → ByteArray} {ml : Nat → Nat} {rt : Nat → Option FieldType} {f : zz_F}
theorem zz_fw {T : zz_T} {K : zz_K} {act : zz_A} {fr : List (Nat × Value) × List Value × zz_W} {f' : zz_F} (b : zz_B l Ts D cl fk cy z0 sp tys G own mn nL cc d f (pc, fr)) (hT : zz_TO l Ts D cl fk cy z0 sp tys G own mn nL cc d K T) (he : zz_ent T pc = (0, act)) (h : act K (pc, fr) = some f') : zz_B l Ts D cl fk cy z0 sp tys G own mn nL cc d f f' :=
  zz_B_tr b (zz_sg hT he h (zz_B_rf _))
/-- by a row of its own -/
theorem zz_fo {K : zz_K} {act : zz_A} {fr : List (Nat × Value) × List Value × zz_W} {f' : zz_F} (b : zz_B l Ts D cl fk cy z0 sp tys G own mn nL cc d f (pc, fr)) (hO : zz_O l Ts D cl fk cy z0 sp tys G own mn nL cc d K pc act) (h : act K (pc, fr) = some f') : zz_B l Ts D cl fk cy z0 sp tys G own mn nL cc d f f' :=
  zz_B_tr b (zz_O_B hO rfl h)
theorem zz_fVi {T : zz_T} {ci y na n r0 : Nat} {lv : List (Nat × Value)} {st as r : List Value} {v : Value} {w w' : zz_W} (b : zz_B l Ts D cl fk cy z0 sp tys G own mn nL cc d f (pc, lv, st, w)) (hT : ∀ K, zz_KS l D cl fk cy z0 sp tys G yn (fun y => Cond.code (yn y) (cn y) (ml y) (rt y) :: Ts) d K → zz_TO l Ts D cl fk cy z0 sp tys G own mn nL cc d K T) (he : zz_ent T pc = (0, za_callV ci y na n))
    (hM : zz_M l Ts D cl fk cy z0 sp tys G yn cn ml rt d y (.ref r0 :: as) w [v] w') (hst : st = as.reverse ++ .ref r0 :: r) (hna : as.length = na) (hb : zz_ic w r0 ci = true) (hr : zz_cs r ≤ 8) : zz_B l Ts D cl fk cy z0 sp tys G own mn nL cc d f (n, lv, v :: r, w') :=
  zz_B_tr b (zz_sV hT he hM hst hna hb hr (zz_B_rf _))
theorem zz_fVv {T : zz_T} {ci y na n r0 : Nat} {lv : List (Nat × Value)} {st as r : List Value} {w w' : zz_W} (b : zz_B l Ts D cl fk cy z0 sp tys G own mn nL cc d f (pc, lv, st, w)) (hT : ∀ K, zz_KS l D cl fk cy z0 sp tys G yn (fun y => Cond.code (yn y) (cn y) (ml y) (rt y) :: Ts) d K → zz_TO l Ts D cl fk cy z0 sp tys G own mn nL cc d K T) (he : zz_ent T pc = (0, za_callV ci y na n))
    (hM : zz_M l Ts D cl fk cy z0 sp tys G yn cn ml rt d y (.ref r0 :: as) w [] w') (hst : st = as.reverse ++ .ref r0 :: r) (hna : as.length = na) (hb : zz_ic w r0 ci = true) (hr : zz_cs r ≤ 8) : zz_B l Ts D cl fk cy z0 sp tys G own mn nL cc d f (n, lv, r, w') :=
  zz_B_tr b (zz_sV hT he hM hst hna hb hr (zz_B_rf _))
theorem zz_fSi {T : zz_T} {y na n : Nat} {lv : List (Nat × Value)} {st as r : List Value} {v : Value} {w w' : zz_W} (b : zz_B l Ts D cl fk cy z0 sp tys G own mn nL cc d f (pc, lv, st, w)) (hT : ∀ K, zz_KS l D cl fk cy z0 sp tys G yn (fun y => Cond.code (yn y) (cn y) (ml y) (rt y) :: Ts) d K → zz_TO l Ts D cl fk cy z0 sp tys G own mn nL cc d K T) (he : zz_ent T pc = (0, za_callS y na n))
    (hM : zz_M l Ts D cl fk cy z0 sp tys G yn cn ml rt d y as w [v] w') (hst : st = as.reverse ++ r) (hna : as.length = na) (hr : zz_cs r ≤ 8) : zz_B l Ts D cl fk cy z0 sp tys G own mn nL cc d f (n, lv, v :: r, w') :=
  zz_B_tr b (zz_sS hT he hM hst hna hr (zz_B_rf _))
theorem zz_fSv {T : zz_T} {y na n : Nat} {lv : List (Nat × Value)} {st as r : List Value} {w w' : zz_W} (b : zz_B l Ts D cl fk cy z0 sp tys G own mn nL cc d f (pc, lv, st, w)) (hT : ∀ K, zz_KS l D cl fk cy z0 sp tys G yn (fun y => Cond.code (yn y) (cn y) (ml y) (rt y) :: Ts) d K → zz_TO l Ts D cl fk cy z0 sp tys G own mn nL cc d K T) (he : zz_ent T pc = (0, za_callS y na n))
    (hM : zz_M l Ts D cl fk cy z0 sp tys G yn cn ml rt d y as w [] w') (hst : st = as.reverse ++ r) (hna : as.length = na) (hr : zz_cs r ≤ 8) : zz_B l Ts D cl fk cy z0 sp tys G own mn nL cc d f (n, lv, r, w') :=
  zz_B_tr b (zz_sS hT he hM hst hna hr (zz_B_rf _))
end ZFW
