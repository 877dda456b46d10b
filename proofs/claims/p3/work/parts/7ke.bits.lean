/-! ABSTRACT FRAMES, on: shifts by a known number, bits of what is not below 0 -/
noncomputable section
theorem zk_2g {I : zz_W → Prop} {A A' : zk_A} {n : Nat} {act : zz_A} {e1 e2 : zl_E} {k1 k2 : Nat} {r : List zk_V} (hT : A.2.1 = (0, k2, e2) :: (0, k1, e1) :: r) (hlen : A.2.2.2.1.length ≤ A'.2.2.2.1.length) (g : Int32 → Int32 → Int32) (ha : ∀ (K : zz_K) (p : Nat) (lv : List (Nat × Value)) (x y : Int32) (st : List Value) (w : zz_W), act K (p, lv, .int y :: .int x :: st, w) = some (n, lv, .int (g x y) :: st, w))
    (key : ∀ (s : Nat → Int) (lv : List (Nat × Value)) (st : List Value) (w : zz_W) (x y : Int32), zk_lc s A.1 lv → zk_st s r st → zk_fl s A.2.2.1 w → zl_in s A.2.2.2.1 → zk_cs s A.2.2.2.2 → I w → x.toInt = zl_ev s e1 → y.toInt = zl_ev s e2 → ∃ s' : Nat → Int, zk_G I s' A' (n, lv, .int (g x y) :: st, w) ∧ ∀ j, j < A.2.2.2.1.length → s' j = s j) : zk_S I act n A A' := by
  obtain ⟨L, T, F, B, C⟩ := A
  have hT : T = (0, k2, e2) :: (0, k1, e1) :: r := hT
  subst hT
  refine ⟨hlen, fun K s f hG => ?_⟩
  obtain ⟨p, lv, st, w⟩ := f
  obtain ⟨g1, g2, g3, g4, g5, g6⟩ := hG
  obtain ⟨y, st1, q1, q2, q3⟩ := zk_st_int g2 rfl
  obtain ⟨x, st2, q4, q5, q6⟩ := zk_st_int q3 rfl
  have hst : st = .int y :: .int x :: st2 := by rw [← q4]; exact q1
  subst hst
  obtain ⟨s', hg, hs⟩ := key s lv st2 w x y g1 q6 g3 g4 g5 g6 q5 q2
  exact ⟨s', _, ha K p lv x y st2 w, rfl, hg, hs⟩
/-- a new int with sums that it keeps -/
def zk_nwc (A : zk_A) (T : List zk_V) (lo hi : Int) (cs : List zl_E) : Option zk_A := match zk_new A T lo hi with
  | some B => some (B.1, B.2.1, B.2.2.1, B.2.2.2.1, cs ++ B.2.2.2.2)
  | none => none
theorem zk_nwc_len {A A' : zk_A} {T : List zk_V} {lo hi : Int} {cs : List zl_E} (h : zk_nwc A T lo hi cs = some A') : A.2.2.2.1.length ≤ A'.2.2.2.1.length := by
  unfold zk_nwc at h
  split at h
  · rename_i B hB
    cases h
    show A.2.2.2.1.length ≤ B.2.2.2.1.length
    exact zk_new_len hB
  · cases h
theorem zk_nwc_ok {I : zz_W → Prop} {A A' : zk_A} {T : List zk_V} {lo hi : Int} {cs : List zl_E} {s : Nat → Int} {lv : List (Nat × Value)} {r : List Value} {w : zz_W} {x : Int32} {n : Nat} (h : zk_nwc A T lo hi cs = some A') (h1 : zk_lc s A.1 lv) (h2 : zk_st s T r) (h3 : zk_fl s A.2.2.1 w) (h4 : zl_in s A.2.2.2.1) (h5 : zk_cs s A.2.2.2.2) (h6 : I w) (hlo : lo ≤ x.toInt) (hhi : x.toInt ≤ hi) (hc : ∀ s' : Nat → Int, s' A.2.2.2.1.length = x.toInt → (∀ j, j < A.2.2.2.1.length → s' j = s j) → zk_cs s' cs) :
    ∃ s' : Nat → Int, zk_G I s' A' (n, lv, .int x :: r, w) ∧ ∀ j, j < A.2.2.2.1.length → s' j = s j := by
  unfold zk_nwc at h
  split at h
  · rename_i B hB
    cases h
    obtain ⟨-, s', hg, hs⟩ := zk_new_ok (I := I) (n := n) hB h1 h2 h3 h4 h5 h6 hlo hhi
    have hsym : s' A.2.2.2.1.length = x.toInt := by
      obtain ⟨-, hB⟩ := zz_cond hB
      cases hB
      obtain ⟨y, y1, y2⟩ := hg.2.1.1.1 rfl
      cases y1
      rw [y2]
      exact (zl_sym_ev s' _).symm
    obtain ⟨b1, b2, b3, b4, b5, b6⟩ := hg
    refine ⟨s', ⟨b1, b2, b3, b4, fun c hcc => ?_, b6⟩, hs⟩
    rcases List.mem_append.mp hcc with hcc | hcc
    · exact hc s' hsym hs c hcc
    · exact b5 c hcc
  · cases h
/-- a sum that is known to be a number -/
def zl_kn (B : List (Int × Int)) (C : List zl_E) (hs : List (List Nat)) (e : zl_E) : Option Int := match zl_c e with
  | some c => some c
  | none => cond (zl_en B C (hs.getD 1 []) (zl_sub e (zl_con (Int.ofNat ((hs.getD 0 []).getD 0 0)))) && zl_en B C (hs.getD 2 []) (zl_sub (zl_con (Int.ofNat ((hs.getD 0 []).getD 0 0))) e)) (some (Int.ofNat ((hs.getD 0 []).getD 0 0))) none
theorem zl_kn_ok {s : Nat → Int} {B : List (Int × Int)} {C : List zl_E} {hs : List (List Nat)} {e : zl_E} {c : Int} (hB : zl_in s B) (hC : zk_cs s C) (h : zl_kn B C hs e = some c) : zl_ev s e = c := by
  unfold zl_kn at h
  split at h
  · rename_i c' hc
    cases h
    exact zl_c_ok hc
  · obtain ⟨hb, h⟩ := zz_cond h
    have h := Option.some.inj h
    obtain ⟨b1, b2⟩ := zz_and hb
    have c1 := zl_en_ok hB hC b1
    have c2 := zl_en_ok hB hC b2
    rw [zl_sub_ev, zl_con_ev] at c1 c2
    omega
theorem zk_ofk {y : Int32} {k : Int} (h : y.toInt = k) (h0 : 0 ≤ k) (h1 : k ≤ 31) : y = Int32.ofNat k.toNat := by
  apply Int32.toInt_inj.mp
  rw [Int32.toInt_ofNat_of_lt (by omega), h]
  omega
theorem zk_nIx {x : Int32} (h : zz_nI x < 2147483648) : x.toInt = (zz_nI x : Int) := by
  have h1 : x.toInt = x.toBitVec.toInt := rfl
  have h2 : zz_nI x = x.toBitVec.toNat := rfl
  rw [h1, BitVec.toInt_eq_toNat_cond, if_pos (by omega), h2]
theorem zk_ishr {x : Int32} {k : Nat} (hk : k < 32) : (x >>> (Int32.ofNat k &&& 31)).toInt = x.toInt / (2 ^ k : Nat) := by
  have h2 : (x >>> (Int32.ofNat k &&& 31)).toBitVec = x.toBitVec.sshiftRight k := by
    have e : (Int32.ofNat k &&& 31).toBitVec.smod 32 = BitVec.ofNat 32 k := by
      revert k
      decide
    rw [Int32.toBitVec_shiftRight, e]
    show x.toBitVec.sshiftRight (BitVec.ofNat 32 k).toNat = _
    rw [BitVec.toNat_ofNat, Nat.mod_eq_of_lt (by omega)]
  show (x >>> (Int32.ofNat k &&& 31)).toBitVec.toInt = x.toBitVec.toInt / (2 ^ k : Nat)
  rw [h2, BitVec.toInt_sshiftRight, Int.shiftRight_eq_div_pow]
theorem zk_iushr {x : Int32} {k : Nat} (hk : k < 32) : zz_nI (x.toUInt32 >>> ((Int32.ofNat k).toUInt32 &&& Int32.toUInt32 31)).toInt32 = zz_nI x / 2 ^ k := by
  have e : ((Int32.ofNat k).toUInt32 &&& Int32.toUInt32 31).toNat = k := by
    revert k
    decide
  show (x.toUInt32 >>> ((Int32.ofNat k).toUInt32 &&& Int32.toUInt32 31)).toNat = _
  rw [UInt32.toNat_shiftRight, e, Nat.mod_eq_of_lt hk, Nat.shiftRight_eq_div_pow]
  rfl
theorem zk_ishl {x : Int32} {k : Nat} (hk : k < 32) : (x <<< (Int32.ofNat k &&& 31)).toInt = (x.toInt * (2 ^ k : Nat)).bmod (2 ^ 32) := by
  have h2 : (x <<< (Int32.ofNat k &&& 31)).toBitVec = x.toBitVec <<< k := by
    have e : (Int32.ofNat k &&& 31).toBitVec.smod 32 = BitVec.ofNat 32 k := by
      revert k
      decide
    rw [Int32.toBitVec_shiftLeft, e]
    show x.toBitVec <<< (BitVec.ofNat 32 k).toNat = _
    rw [BitVec.toNat_ofNat, Nat.mod_eq_of_lt (by omega)]
  show (x <<< (Int32.ofNat k &&& 31)).toBitVec.toInt = (x.toBitVec.toInt * (2 ^ k : Nat)).bmod (2 ^ 32)
  rw [h2, BitVec.toInt_shiftLeft, BitVec.toInt_eq_toNat_bmod, Int.bmod_mul_bmod, Nat.shiftLeft_eq]
  rfl
/-- the greatest whole number not above l / m, of what a sum is at least, at most -/
def zl_fl (B : List (Int × Int)) (e : zl_E) (m : Int) (d : Int) : Int := match zl_ub B (zl_mul (-1) e) with
  | some u => (-u) / m
  | none => d
def zl_fh (B : List (Int × Int)) (e : zl_E) (m : Int) (d : Int) : Int := match zl_ub B e with
  | some u => u / m
  | none => d
theorem zl_fl_ok {s : Nat → Int} {B : List (Int × Int)} {e : zl_E} {m d : Int} (hB : zl_in s B) (hm : 0 < m) (hd : d ≤ zl_ev s e / m) : zl_fl B e m d ≤ zl_ev s e / m := by
  unfold zl_fl
  split
  · rename_i u hu
    have := zl_ub_ok hB hu
    rw [zl_mul_ev] at this
    exact Int.ediv_le_ediv hm (by omega)
  · exact hd
theorem zl_fh_ok {s : Nat → Int} {B : List (Int × Int)} {e : zl_E} {m d : Int} (hB : zl_in s B) (hm : 0 < m) (hd : zl_ev s e / m ≤ d) : zl_ev s e / m ≤ zl_fh B e m d := by
  unfold zl_fh
  split
  · rename_i u hu
    exact Int.ediv_le_ediv hm (zl_ub_ok hB hu)
  · exact hd
/-- a number by 2^k, rounded down -/
def zk_shq (A : zk_A) (T : List zk_V) (e : zl_E) (k : Nat) : Option zk_A :=
  cond (Nat.ble (zl_mx e.2) A.2.2.2.1.length) (zk_nwc A T (zl_fl A.2.2.2.1 e (2 ^ k : Nat) (-2147483648)) (zl_fh A.2.2.2.1 e (2 ^ k : Nat) 2147483647) [zl_sub e (zl_mul (2 ^ k : Nat) (zl_sym A.2.2.2.1.length)), zl_sub (zl_add (zl_mul (2 ^ k : Nat) (zl_sym A.2.2.2.1.length)) (zl_con ((2 ^ k : Nat) - 1))) e]) none
theorem zk_shq_len {A A' : zk_A} {T : List zk_V} {e : zl_E} {k : Nat} (h : zk_shq A T e k = some A') : A.2.2.2.1.length ≤ A'.2.2.2.1.length := by
  obtain ⟨-, h⟩ := zz_cond h
  exact zk_nwc_len h
theorem zk_shq_ok {I : zz_W → Prop} {A A' : zk_A} {T : List zk_V} {e : zl_E} {k : Nat} {s : Nat → Int} {lv : List (Nat × Value)} {r : List Value} {w : zz_W} {x v : Int32} {n : Nat} (h : zk_shq A T e k = some A') (h1 : zk_lc s A.1 lv) (h2 : zk_st s T r) (h3 : zk_fl s A.2.2.1 w) (h4 : zl_in s A.2.2.2.1) (h5 : zk_cs s A.2.2.2.2) (h6 : I w) (hx : x.toInt = zl_ev s e) (hv : v.toInt = x.toInt / (2 ^ k : Nat)) : ∃ s' : Nat → Int, zk_G I s' A' (n, lv, .int v :: r, w) ∧ ∀ j, j < A.2.2.2.1.length → s' j = s j := by
  obtain ⟨hb, h⟩ := zz_cond h
  have hm : (0 : Int) < ((2 ^ k : Nat) : Int) := by
    have := Nat.two_pow_pos k
    omega
  refine zk_nwc_ok (I := I) (n := n) h h1 h2 h3 h4 h5 h6 ?_ ?_ (fun s' hs' hs => ?_)
  · rw [hv, hx]
    exact zl_fl_ok h4 hm (by rw [← hx, ← hv]; exact zk_lo v)
  · rw [hv, hx]
    exact zl_fh_ok h4 hm (by rw [← hx, ← hv]; exact zk_hi v)
  · have he : zl_ev s' e = zl_ev s e := zl_ev_eq (n := A.2.2.2.1.length) (zz_ble hb) hs
    have hq : s' A.2.2.2.1.length = zl_ev s e / (2 ^ k : Nat) := by rw [hs', hv, hx]
    have d1 := Int.mul_ediv_add_emod (zl_ev s e) ((2 ^ k : Nat) : Int)
    have d2 := Int.emod_nonneg (zl_ev s e) (show ((2 ^ k : Nat) : Int) ≠ 0 by omega)
    have d3 := Int.emod_lt_of_pos (zl_ev s e) hm
    rw [← hq] at d1
    intro c hc
    rcases List.mem_cons.mp hc with ec | hc
    · rw [ec, zl_sub_ev, zl_mul_ev, zl_sym_ev, he]; omega
    · rw [List.mem_singleton.mp hc, zl_sub_ev, zl_add_ev, zl_mul_ev, zl_sym_ev, zl_con_ev, he]; omega
def zt_ishr2 (hs : List (List Nat)) (A : zk_A) : Option zk_A := match A.2.1 with
  | (0, _, e2) :: (0, _, e1) :: r => match zl_kn A.2.2.2.1 A.2.2.2.2 hs e2 with
    | some k => cond (decide (0 ≤ k) && decide (k ≤ 31)) (zk_shq A r e1 k.toNat) (zk_new A r (-2147483648) 2147483647)
    | none => zk_new A r (-2147483648) 2147483647
  | _ => none
theorem zt_ishr2_ok {I : zz_W → Prop} {A A' : zk_A} {n : Nat} {hs : List (List Nat)} (h : zt_ishr2 hs A = some A') : zk_S I (za_ishr n) n A A' := by
  unfold zt_ishr2 at h
  split at h
  · rename_i k2 e2 k1 e1 r hT
    have htop : zk_new A r (-2147483648) 2147483647 = some A' → zk_S I (za_ishr n) n A A' := fun h => zk_2g hT (zk_new_len h) (fun x y => x >>> (y &&& 31)) (fun K p lv x y st w => ze_ishr rfl) (fun s lv st w x y h1 h2 h3 h4 h5 h6 _ _ => by
      obtain ⟨-, s', g, hs⟩ := zk_new_ok (I := I) (n := n) h h1 h2 h3 h4 h5 h6 (zk_lo _) (zk_hi _)
      exact ⟨s', g, hs⟩)
    split at h
    · rename_i k hk
      cases hb : (decide (0 ≤ k) && decide (k ≤ 31)) with
      | false =>
        rw [hb] at h
        exact htop h
      | true =>
        rw [hb] at h
        obtain ⟨b1, b2⟩ := zz_and hb
        have b1 := of_decide_eq_true b1
        have b2 := of_decide_eq_true b2
        have h : zk_shq A r e1 k.toNat = some A' := h
        refine zk_2g hT (zk_shq_len h) (fun x y => x >>> (y &&& 31)) (fun K p lv x y st w => ze_ishr rfl) (fun s lv st w x y h1 h2 h3 h4 h5 h6 hx hy => ?_)
        have hy := zk_ofk (hy.trans (zl_kn_ok h4 h5 hk)) b1 b2
        subst hy
        exact zk_shq_ok h h1 h2 h3 h4 h5 h6 hx (zk_ishr (by omega))
    · exact htop h
  · cases h
def zt_iushr2 (hs : List (List Nat)) (A : zk_A) : Option zk_A := match A.2.1 with
  | (0, _, e2) :: (0, _, e1) :: r => match zl_kn A.2.2.2.1 A.2.2.2.2 hs e2 with
    | some k => cond (decide (0 ≤ k) && decide (k ≤ 31)) (cond (zl_pos A.2.2.2.1 e1) (zk_shq A r e1 k.toNat) (cond (decide (1 ≤ k)) (zk_new A r 0 ((2 ^ (32 - k.toNat) : Nat) - 1)) (zk_new A r (-2147483648) 2147483647))) (zk_new A r (-2147483648) 2147483647)
    | none => zk_new A r (-2147483648) 2147483647
  | _ => none
theorem zt_iushr2_ok {I : zz_W → Prop} {A A' : zk_A} {n : Nat} {hs : List (List Nat)} (h : zt_iushr2 hs A = some A') : zk_S I (za_iushr n) n A A' := by
  unfold zt_iushr2 at h
  split at h
  · rename_i k2 e2 k1 e1 r hT
    have htop : zk_new A r (-2147483648) 2147483647 = some A' → zk_S I (za_iushr n) n A A' := fun h => zk_2g hT (zk_new_len h) (fun x y => (x.toUInt32 >>> (y.toUInt32 &&& Int32.toUInt32 31)).toInt32) (fun K p lv x y st w => ze_iushr rfl) (fun s lv st w x y h1 h2 h3 h4 h5 h6 _ _ => by
      obtain ⟨-, s', g, hs⟩ := zk_new_ok (I := I) (n := n) h h1 h2 h3 h4 h5 h6 (zk_lo _) (zk_hi _)
      exact ⟨s', g, hs⟩)
    split at h
    · rename_i k hk
      cases hb : (decide (0 ≤ k) && decide (k ≤ 31)) with
      | false =>
        rw [hb] at h
        exact htop h
      | true =>
        rw [hb] at h
        obtain ⟨b1, b2⟩ := zz_and hb
        have b1 := of_decide_eq_true b1
        have b2 := of_decide_eq_true b2
        cases hp : zl_pos A.2.2.2.1 e1 with
        | true =>
          rw [hp] at h
          have h : zk_shq A r e1 k.toNat = some A' := h
          refine zk_2g hT (zk_shq_len h) (fun x y => (x.toUInt32 >>> (y.toUInt32 &&& Int32.toUInt32 31)).toInt32) (fun K p lv x y st w => ze_iushr rfl) (fun s lv st w x y h1 h2 h3 h4 h5 h6 hx hy => ?_)
          have hy := zk_ofk (hy.trans (zl_kn_ok h4 h5 hk)) b1 b2
          subst hy
          have hx0 := zl_pos_ok h4 hp
          have hn := zk_nI (x := x) (by omega)
          have hv := zk_iushr (x := x) (k := k.toNat) (by omega)
          have hle : zz_nI x / 2 ^ k.toNat ≤ zz_nI x := Nat.div_le_self _ _
          have hhi := zk_hi x
          refine zk_shq_ok h h1 h2 h3 h4 h5 h6 hx ?_
          rw [zk_nIx (by rw [hv]; omega), hv, ← hn]
          exact Int.natCast_ediv _ _
        | false =>
          rw [hp] at h
          cases hk1 : decide (1 ≤ k) with
          | false =>
            rw [hk1] at h
            exact htop h
          | true =>
            rw [hk1] at h
            have hk1 := of_decide_eq_true hk1
            have h : zk_new A r 0 ((2 ^ (32 - k.toNat) : Nat) - 1) = some A' := h
            refine zk_2g hT (zk_new_len h) (fun x y => (x.toUInt32 >>> (y.toUInt32 &&& Int32.toUInt32 31)).toInt32) (fun K p lv x y st w => ze_iushr rfl) (fun s lv st w x y h1 h2 h3 h4 h5 h6 hx hy => ?_)
            have hy := zk_ofk (hy.trans (zl_kn_ok h4 h5 hk)) b1 b2
            subst hy
            have hv := zk_iushr (x := x) (k := k.toNat) (by omega)
            have hlt : zz_nI x / 2 ^ k.toNat < 2 ^ (32 - k.toNat) := by
              rw [Nat.div_lt_iff_lt_mul (Nat.two_pow_pos _), ← Nat.pow_add, show 32 - k.toNat + k.toNat = 32 by omega]
              exact zz_nI_lt x
            have hle : 2 ^ (32 - k.toNat) ≤ 2 ^ 31 := Nat.pow_le_pow_right (by decide) (by omega)
            obtain ⟨-, s', g, hs⟩ := zk_new_ok (I := I) (n := n) (x := (x.toUInt32 >>> ((Int32.ofNat k.toNat).toUInt32 &&& Int32.toUInt32 31)).toInt32) h h1 h2 h3 h4 h5 h6 (by rw [zk_nIx (by rw [hv]; omega)]; omega) (by rw [zk_nIx (by rw [hv]; omega), hv]; omega)
            exact ⟨s', g, hs⟩
    · exact htop h
  · cases h
def zt_ishl2 (hs : List (List Nat)) (A : zk_A) : Option zk_A := match A.2.1 with
  | (0, _, e2) :: (0, _, e1) :: r => match zl_kn A.2.2.2.1 A.2.2.2.2 hs e2 with
    | some k => cond (decide (0 ≤ k) && decide (k ≤ 31)) (zk_lin A r (zl_mul (2 ^ k.toNat : Nat) e1)) (zk_new A r (-2147483648) 2147483647)
    | none => zk_new A r (-2147483648) 2147483647
  | _ => none
theorem zt_ishl2_ok {I : zz_W → Prop} {A A' : zk_A} {n : Nat} {hs : List (List Nat)} (h : zt_ishl2 hs A = some A') : zk_S I (za_ishl n) n A A' := by
  unfold zt_ishl2 at h
  split at h
  · rename_i k2 e2 k1 e1 r hT
    have htop : zk_new A r (-2147483648) 2147483647 = some A' → zk_S I (za_ishl n) n A A' := fun h => zk_2g hT (zk_new_len h) (fun x y => x <<< (y &&& 31)) (fun K p lv x y st w => ze_ishl rfl) (fun s lv st w x y h1 h2 h3 h4 h5 h6 _ _ => by
      obtain ⟨-, s', g, hs⟩ := zk_new_ok (I := I) (n := n) h h1 h2 h3 h4 h5 h6 (zk_lo _) (zk_hi _)
      exact ⟨s', g, hs⟩)
    split at h
    · rename_i k hk
      cases hb : (decide (0 ≤ k) && decide (k ≤ 31)) with
      | false =>
        rw [hb] at h
        exact htop h
      | true =>
        rw [hb] at h
        obtain ⟨b1, b2⟩ := zz_and hb
        have b1 := of_decide_eq_true b1
        have b2 := of_decide_eq_true b2
        have h : zk_lin A r (zl_mul (2 ^ k.toNat : Nat) e1) = some A' := h
        refine zk_2g hT (zk_lin_len h) (fun x y => x <<< (y &&& 31)) (fun K p lv x y st w => ze_ishl rfl) (fun s lv st w x y h1 h2 h3 h4 h5 h6 hx hy => ?_)
        have hy := zk_ofk (hy.trans (zl_kn_ok h4 h5 hk)) b1 b2
        subst hy
        obtain ⟨-, s', g, hs⟩ := zk_lin_ok (I := I) (n := n) (x := x <<< (Int32.ofNat k.toNat &&& 31)) h h1 h2 h3 h4 h5 h6 (fun a b => by
          rw [zl_mul_ev] at a b ⊢
          rw [zk_ishl (by omega), hx, Int.mul_comm]
          exact zk_bmod a b)
        exact ⟨s', g, hs⟩
    · exact htop h
  · cases h
/-- both bits' lists are within 2^m -/
theorem zk_or_bd {x y : Int32} {m : Nat} (hm : m ≤ 31) (hx : 0 ≤ x.toInt) (hy : 0 ≤ y.toInt) (hx2 : x.toInt < (2 ^ m : Nat)) (hy2 : y.toInt < (2 ^ m : Nat)) : 0 ≤ (x ||| y).toInt ∧ (x ||| y).toInt ≤ (2 ^ m : Nat) - 1 := by
  have h1 := zk_nI hx
  have h2 := zk_nI hy
  have h3 : zz_nI (x ||| y) = zz_nI x ||| zz_nI y := by
    unfold zz_nI
    rw [Int32.toBitVec_or, BitVec.toNat_or]
  have h4 : zz_nI x ||| zz_nI y < 2 ^ m := Nat.or_lt_two_pow (by omega) (by omega)
  have h5 : 2 ^ m ≤ 2 ^ 31 := Nat.pow_le_pow_right (by decide) hm
  rw [zk_nIx (by rw [h3]; omega), h3]
  constructor <;> omega
def zk_bdOr (m : Nat) (B : List (Int × Int)) (e1 e2 : zl_E) : Int × Int := match zl_ub B e1, zl_ub B e2 with
  | some u1, some u2 => cond (zl_pos B e1 && (zl_pos B e2 && (Nat.ble m 31 && (decide (u1 < (2 ^ m : Nat)) && decide (u2 < (2 ^ m : Nat)))))) (0, (2 ^ m : Nat) - 1) (-2147483648, 2147483647)
  | _, _ => (-2147483648, 2147483647)
theorem zt_ior2_ok {I : zz_W → Prop} {A A' : zk_A} {n m : Nat} (h : zt_2b (zk_bdOr m) A = some A') : zk_S I (za_ior n) n A A' :=
  zt_2b_ok (g := fun x y => x ||| y) (P := fun _ => True) (fun _ _ _ _ _ _ _ _ _ _ _ => trivial) (fun K p lv x y r w _ => ze_ior rfl) (fun s B x y e1 e2 hB h1 h2 => by
    unfold zk_bdOr
    split
    · rename_i u1 u2 hu1 hu2
      cases hb : (zl_pos B e1 && (zl_pos B e2 && (Nat.ble m 31 && (decide (u1 < (2 ^ m : Nat)) && decide (u2 < (2 ^ m : Nat)))))) with
      | false => exact zk_topE
      | true =>
        obtain ⟨b1, hb⟩ := zz_and hb
        obtain ⟨b2, hb⟩ := zz_and hb
        obtain ⟨b3, hb⟩ := zz_and hb
        obtain ⟨b4, b5⟩ := zz_and hb
        have b4 := of_decide_eq_true b4
        have b5 := of_decide_eq_true b5
        have p1 := zl_pos_ok hB b1
        have p2 := zl_pos_ok hB b2
        have q1 := zl_ub_ok hB hu1
        have q2 := zl_ub_ok hB hu2
        exact zk_or_bd (zz_ble b3) (by omega) (by omega) (by omega) (by omega)
    · exact zk_topE) h
/-- a mask that is not below 0 -/
def zk_bdAn2 (B : List (Int × Int)) (e1 e2 : zl_E) : Int × Int := match zl_ub B e2, zl_pos B e2 with
  | some u, true => (0, u)
  | _, _ => match zl_ub B e1, zl_pos B e1 with
    | some u, true => (0, u)
    | _, _ => (-2147483648, 2147483647)
theorem zt_iand2_ok {I : zz_W → Prop} {A A' : zk_A} {n : Nat} (h : zt_2b zk_bdAn2 A = some A') : zk_S I (za_iand n) n A A' :=
  zt_2b_ok (g := fun x y => x &&& y) (P := fun _ => True) (fun _ _ _ _ _ _ _ _ _ _ _ => trivial) (fun K p lv x y r w _ => ze_iand rfl) (fun s B x y e1 e2 hB h1 h2 => by
    unfold zk_bdAn2
    split
    · rename_i u hu hp
      have p1 := zl_pos_ok hB hp
      have q1 := zl_ub_ok hB hu
      have := zk_and_bd (x := x) (y := y) (by omega)
      exact ⟨this.1, by show _ ≤ u; omega⟩
    · split
      · rename_i u hu hp
        have p1 := zl_pos_ok hB hp
        have q1 := zl_ub_ok hB hu
        have := zk_and_bd (x := y) (y := x) (by omega)
        rw [zk_and_comm] at this
        exact ⟨this.1, by show _ ≤ u; omega⟩
      · exact zk_topE) h
/-- a field is followed from here on -/
def zk_fol (HT : List (List zk_H)) (ci i k : Nat) (A : zk_A) : Option zk_A := match zk_fs HT ci i k, zk_fk A.2.2.1 i k with
  | some (0, _, lo, hi), none => match zk_new A A.2.1 lo hi with
    | some B => some (B.1, A.2.1, ((i, k), (0, 0, zl_sym A.2.2.2.1.length)) :: B.2.2.1, B.2.2.2.1, B.2.2.2.2)
    | none => none
  | _, _ => none
theorem zk_fol_ok {c : Nat} {HT : List (List zk_H)} {I : zz_W → Prop} (hI : ∀ w, I w → zk_I c HT w) {ci i k : Nat} {A A' : zk_A} (h : zk_fol HT ci i k A = some A') {s : Nat → Int} {p : Nat} {lv : List (Nat × Value)} {st : List Value} {w : zz_W} (hG : zk_G I s A (p, lv, st, w)) : A.2.2.2.1.length ≤ A'.2.2.2.1.length ∧ ∃ s' : Nat → Int, zk_G I s' A' (p, lv, st, w) ∧ ∀ j, j < A.2.2.2.1.length → s' j = s j := by
  unfold zk_fol at h
  split at h
  · rename_i d lo hi hfs hfk
    split at h
    · rename_i A1 hA1
      cases h
      obtain ⟨g1, g2, g3, g4, g5, g6⟩ := hG
      obtain ⟨o1, o2, o3, o4, o5, o6, o7, o8⟩ := zk_fs_ok hfs (hI _ g6)
      have o7 := o7 rfl
      obtain ⟨hl, s', hg, hs⟩ := zk_new_ok (I := I) (x := Int32.ofNat (zk_fd w (i, k))) (n := p) (w := w) (lv := lv) hA1 g1 g2 g3 g4 g5 g6 o7.1 o7.2
      obtain ⟨j1, j2, j3, j4, j5, j6⟩ := hg
      have hT : A1.2.1 = (0, 0, zl_sym A.2.2.2.1.length) :: A.2.1 := by
        obtain ⟨-, hA1⟩ := zz_cond hA1
        cases hA1
        rfl
      rw [hT] at j2
      refine ⟨hl, s', ⟨j1, j2.2, fun q hq => ?_, j4, j5, j6⟩, hs⟩
      rcases List.mem_cons.mp hq with e | hq
      · subst e
        refine ⟨fun _ => ?_, fun h => absurd (show (0 : Nat) = 2 from h) (by decide), fun h => absurd (show (0 : Nat) = 3 from h) (by decide)⟩
        obtain ⟨y, y1, y2⟩ := j2.1.1 rfl
        cases y1
        exact y2
      · exact j3 q hq
    · cases h
  · cases h
end
