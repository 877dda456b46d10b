/-! ABSTRACT FRAMES, on: a long that is not below 0, moved right by a number -/
noncomputable section
theorem zk_ofk63 {y : Int32} {k : Int} (h : y.toInt = k) (h0 : 0 ≤ k) (h1 : k ≤ 63) : y = Int32.ofNat k.toNat := by
  apply Int32.toInt_inj.mp
  rw [Int32.toInt_ofNat_of_lt (by omega), h]
  omega
theorem zk_lshr {x : Int64} {k : Nat} (hk : k < 64) : (x >>> ((Int32.ofNat k).toInt64 &&& 63)).toInt = x.toInt / (2 ^ k : Nat) := by
  have h2 : (x >>> ((Int32.ofNat k).toInt64 &&& 63)).toBitVec = x.toBitVec.sshiftRight k := by
    have e : ((Int32.ofNat k).toInt64 &&& 63).toBitVec.smod 64 = BitVec.ofNat 64 k := by
      revert k
      decide
    rw [Int64.toBitVec_shiftRight, e]
    show x.toBitVec.sshiftRight (BitVec.ofNat 64 k).toNat = _
    rw [BitVec.toNat_ofNat, Nat.mod_eq_of_lt (by omega)]
  show (x >>> ((Int32.ofNat k).toInt64 &&& 63)).toBitVec.toInt = x.toBitVec.toInt / (2 ^ k : Nat)
  rw [h2, BitVec.toInt_sshiftRight, Int.shiftRight_eq_div_pow]
def zt_lshr3 (hs : List (List Nat)) (A : zk_A) : Option zk_A := match A.2.1, (hs.getD 0 []).getD 0 0 with
  | (0, k2, e2) :: (1, k1, e1) :: r, 1 => match zl_c e2, zl_ub A.2.2.2.1 e1 with
    | some c, some u => cond (Nat.beq k1 1 && ((decide (0 ≤ c) && decide (c ≤ 62)) && (zl_en A.2.2.2.1 A.2.2.2.2 (hs.getD 1 []) e1 && (Nat.ble (zl_mx e1.2) A.2.2.2.1.length && zk_wf A.2.2.2.1.length A.1 r A.2.2.1 A.2.2.2.2))))
      (some (A.1, (1, 1, zl_sym A.2.2.2.1.length) :: r, A.2.2.1, A.2.2.2.1 ++ [(0, u / (2 ^ c.toNat : Nat))], zl_sub e1 (zl_mul (2 ^ c.toNat : Nat) (zl_sym A.2.2.2.1.length)) :: zl_sub (zl_add (zl_mul (2 ^ c.toNat : Nat) (zl_sym A.2.2.2.1.length)) (zl_con ((2 ^ c.toNat : Nat) - 1))) e1 :: A.2.2.2.2)) none
    | _, _ => none
  | _, _ => zt_LI A
theorem zt_lshr3_ok {I : zz_W → Prop} {A A' : zk_A} {n : Nat} {hs : List (List Nat)} (h : zt_lshr3 hs A = some A') : zk_S I (za_lshr n) n A A' := by
  unfold zt_lshr3 at h
  split at h
  · rename_i k2 e2 k1 e1 r hT _
    obtain ⟨L, T, F, B, C⟩ := A
    have hT : T = (0, k2, e2) :: (1, k1, e1) :: r := hT
    subst hT
    split at h
    · rename_i c u hc hu
      obtain ⟨hb, h⟩ := zz_cond h
      obtain ⟨b2, hb⟩ := zz_and hb
      obtain ⟨b3, hb⟩ := zz_and hb
      obtain ⟨b4, hb⟩ := zz_and hb
      obtain ⟨b5, b6⟩ := zz_and hb
      obtain ⟨b7, b8⟩ := zz_and b3
      have b7 := of_decide_eq_true b7
      have b8 := of_decide_eq_true b8
      have hu : zl_ub B e1 = some u := hu
      have hm0 : 0 < 2 ^ c.toNat := Nat.pos_of_ne_zero (by exact Nat.ne_of_gt (Nat.pow_pos (by decide)))
      generalize hm : 2 ^ c.toNat = m at h hm0
      cases h
      refine ⟨by show B.length ≤ (B ++ [(0, u / (m : Int))]).length; simp, fun K s f hG => ?_⟩
      obtain ⟨p, lv, st, w⟩ := f
      obtain ⟨g1, g2, g3, g4, g5, g6⟩ := hG
      obtain ⟨y, st1, q1, q2, q3⟩ := zk_st_int g2 rfl
      obtain ⟨x, st2, q4, q5, q6⟩ := zk_st_lv q3 rfl
      have hst : st = .int y :: .long x :: st2 := by rw [← q4]; exact q1
      subst hst
      have q2 : y.toInt = zl_ev s e2 := q2
      have q5 : x.toInt = zl_ev s e1 := q5 (zz_beq b2)
      rw [zl_c_ok (s := s) hc] at q2
      have hyk := zk_ofk63 q2 b7 (by omega)
      subst hyk
      have z1 := zl_en_ok g4 g5 b4
      have z2 := zl_ub_ok g4 hu
      have hq : (x >>> ((Int32.ofNat c.toNat).toInt64 &&& 63)).toInt = zl_ev s e1 / (m : Int) := by rw [zk_lshr (by omega), q5, hm]
      have hag : ∀ j, j < B.length → (fun j => if j = B.length then zl_ev s e1 / (m : Int) else s j) j = s j := fun j hj => if_neg (by omega)
      generalize hs' : (fun j => if j = B.length then zl_ev s e1 / (m : Int) else s j) = s' at hag
      have hsB : s' B.length = zl_ev s e1 / (m : Int) := by rw [← hs']; exact if_pos rfl
      obtain ⟨m1, m2, m3, m4⟩ := zk_wf_ok b6 hag g1 q6 g3 g5
      have he1 : zl_ev s' e1 = zl_ev s e1 := zl_ev_eq (n := B.length) (zz_ble b5) hag
      have hd1 := Int.mul_ediv_add_emod (zl_ev s e1) (m : Int)
      have hd2 := Int.emod_nonneg (zl_ev s e1) (b := (m : Int)) (by omega)
      have hd3 := Int.emod_lt_of_pos (zl_ev s e1) (show (0 : Int) < (m : Int) by omega)
      refine ⟨s', _, ze_lshr rfl, rfl, ⟨m1, ⟨zk_v_lv (by rw [zl_sym_ev, hsB]; exact hq), m2⟩, m3, zl_in_snoc (fun k q hk => ?_) ?_ ?_, fun c0 hc0 => ?_, g6⟩, hag⟩
      · have hk' : k < B.length := (List.getElem?_eq_some_iff.mp hk).1
        rw [hag k hk']
        exact g4 k q hk
      · rw [hsB]
        exact Int.ediv_nonneg z1 (by omega)
      · rw [hsB]
        exact Int.ediv_le_ediv (show (0 : Int) < (m : Int) by omega) z2
      · rcases List.mem_cons.mp hc0 with e | hc0
        · rw [e, zl_sub_ev, zl_mul_ev, zl_sym_ev, hsB, he1]
          omega
        · rcases List.mem_cons.mp hc0 with e | hc0
          · rw [e, zl_sub_ev, zl_add_ev, zl_mul_ev, zl_sym_ev, zl_con_ev, hsB, he1]
            omega
          · exact m4 c0 hc0
    · cases h
  · exact zt_lshr_ok h
end
