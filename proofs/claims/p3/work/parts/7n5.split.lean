/-! THE CHECK in pieces: each cut frame a theorem of its own (memory) -/
noncomputable def zk_chA (HT : List (List zk_H)) (SU : Nat → List (Nat × Nat)) (TS : zk_TY) (CT : Nat → Option zk_Ct) (code : List (List zi)) (cs : List zk_Cu) (q : zk_Ct) (fuel nl : Nat) (h0 : List zk_Hn) : Bool :=
  zk_t3 q.1.1.2.1 && (q.2.2.1.2.all (fun p => Nat.ble (zl_mx p.2.2) q.1.1.2.2.2.1.length) && (Nat.ble (zk_cz q.1.1.2.1) nl && ((zl_pos q.1.1.2.2.2.1 (zl_sub (zk_dep q.2.2.2) (zl_con 1)) && (zl_pos q.1.1.2.2.2.1 (zl_sub (zl_sub (zk_dep q.2.2.2) (zl_con 1)) (zk_dep (q.2.2.2 - 1))) && Nat.ble (zl_mx (zk_dep (q.2.2.2 - 1)).2) q.1.1.2.2.2.1.length)) && zk_ex HT q.2.2.1 SU TS CT code cs q.2.1 q.1.1.2.2.2.1.length (q.2.2.2 - 1) (zl_con 100000000000000000000000000000000000000000000000000000000000000000000000000000000000000000000000000000000000000000000000000000000000000000000000000000000000000000000000000000000000000000000000000000000) fuel [(false, 0, ((zk_ar 0 q.1.1.2.1, [], q.1.1.2.2.1, q.1.1.2.2.2.1, q.1.1.2.2.2.2), q.1.2.1, q.1.2.2))] h0)))
theorem zk_chk_sp {HT : List (List zk_H)} {SU : Nat → List (Nat × Nat)} {TS : zk_TY} {CT : Nat → Option zk_Ct} {code : List (List zi)} {cs : List zk_Cu} {q : zk_Ct} {fuel nl : Nat} {h0 : List zk_Hn} {H : List (List zk_Hn)} (h1 : zk_chA HT SU TS CT code cs q fuel nl h0 = true) (h2 : zk_cks HT q.2.2.1 SU TS CT code cs q.2.1 q.1.1.2.2.2.1.length (q.2.2.2 - 1) fuel cs H = true) : zk_chk HT SU TS CT code cs q fuel nl h0 H = true := by
  unfold zk_chA at h1
  obtain ⟨b1, hb⟩ := zz_and h1
  obtain ⟨b2, hb⟩ := zz_and hb
  obtain ⟨b3, hb⟩ := zz_and hb
  obtain ⟨b4, b5⟩ := zz_and hb
  unfold zk_chk
  rw [b1, b2, b3, b4, b5, h2]
  rfl
theorem zk_cks_nil {HT : List (List zk_H)} {M : zk_M} {SU : Nat → List (Nat × Nat)} {TS : zk_TY} {CT : Nat → Option zk_Ct} {code : List (List zi)} {cs : List zk_Cu} {ps : List zk_St} {mg dm fuel : Nat} : zk_cks HT M SU TS CT code cs ps mg dm fuel [] [] = true := rfl
theorem zk_cks_cons {HT : List (List zk_H)} {M : zk_M} {SU : Nat → List (Nat × Nat)} {TS : zk_TY} {CT : Nat → Option zk_Ct} {code : List (List zi)} {cs : List zk_Cu} {ps : List zk_St} {mg dm fuel : Nat} {q : zk_Cu} {qs : List zk_Cu} {h : List zk_Hn} {hs : List (List zk_Hn)} (h1 : zk_ck1 HT M SU TS CT code cs ps mg dm fuel q h = true) (h2 : zk_cks HT M SU TS CT code cs ps mg dm fuel qs hs = true) : zk_cks HT M SU TS CT code cs ps mg dm fuel (q :: qs) (h :: hs) = true := by
  show (zk_ck1 HT M SU TS CT code cs ps mg dm fuel q h && zk_cks HT M SU TS CT code cs ps mg dm fuel qs hs) = true
  rw [h1, h2]
  rfl
