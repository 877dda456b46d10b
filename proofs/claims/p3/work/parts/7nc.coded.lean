/-! HINTS written as numbers: read digit by digit, below 256; nothing has to be shown of them -/
noncomputable section
def zd_n {β : Type} (n : Nat) (k : Nat → Nat → β) : β :=
  zz_fN (Nat.mod n 256) (fun d => zz_fN (Nat.div n 256) (fun r => cond (Nat.blt d 240) (k d r) (zz_fN (Nat.pow 256 (cond (Nat.beq d 255) 40 (cond (Nat.beq d 254) 72 (Nat.sub d 239)))) (fun m => zz_fN (Nat.mod r m) (fun v => zz_fN (Nat.div r m) (fun q => k v q))))))
def zd_i {β : Type} (n : Nat) (k : Int → Nat → β) : β :=
  zd_n n (fun v r => zz_fN (Nat.div v 2) (fun h => cond (Nat.beq (Nat.mod v 2) 0) (k (Int.ofNat h) r) (k (Int.negSucc h) r)))
def zd_l {α β : Type} (rd : Nat → (α → Nat → β) → β) : Nat → Nat → (List α → Nat → β) → β
  | 0, n, k => k [] n
  | m + 1, n, k => rd n (fun a r => zd_l rd m r (fun l q => k (a :: l) q))
def zd_L {α β : Type} (rd : Nat → (α → Nat → β) → β) (n : Nat) (k : List α → Nat → β) : β := zd_n n (fun m r => zd_l rd m r k)
def zd_zr : Nat → List Nat → List Nat
  | 0, l => l
  | g + 1, l => 0 :: zd_zr g l
def zd_p {β : Type} : Nat → Nat → (List Nat → Nat → β) → β
  | 0, n, k => k [] n
  | m + 1, n, k => zd_n n (fun g r => zd_n r (fun v q => zd_p m q (fun l u => k (zd_zr g (v :: l)) u)))
def zd_m {β : Type} (n : Nat) (k : List Nat → Nat → β) : β := zd_n n (fun m r => zd_p m r k)
def zd_N {β : Type} (n : Nat) (k : zl_N → Nat → β) : β :=
  zd_n n (fun v r => zz_fN (Nat.div v 2) (fun h => cond (Nat.beq (Nat.mod v 2) 0) (k (h, 0) r) (k (0, Nat.succ h) r)))
def zd_t {β : Type} (n : Nat) (k : Nat × zl_N → Nat → β) : β := zd_n n (fun i r => zd_N r (fun c q => k (i, c) q))
def zd_e {β : Type} (n : Nat) (k : zl_E → Nat → β) : β := zd_n n (fun h r => match h with
  | 0 => zd_N r (fun c q => k (c, []) q)
  | 1 => zd_n r (fun i q => k (zl_sym i) q)
  | 2 => zd_n r (fun i q => zd_N q (fun c u => k (c, [(i, 1, 0)]) u))
  | _ => zd_N r (fun c q => zd_L zd_t q (fun l u => k (c, l) u)))
def zd_g {β : Type} (n : Nat) (k : zk_Gh → Nat → β) : β := zd_n n (fun a r => zd_L zd_m r (fun l q => k (a, l) q))
def zd_c {β : Type} (n : Nat) (k : zk_Cv → Nat → β) : β := zd_n n (fun a r => zd_n r (fun b r => zd_L zd_e r (fun es r => zd_L zd_g r (fun g1 r => zd_L zd_g r (fun g2 r => zd_g r (fun g3 r => k (a, b, es, g1, g2, g3) r))))))
def zd_h {β : Type} (n : Nat) (k : zk_Hn → Nat → β) : β := zd_n n (fun t r => zd_L zd_m r (fun hs r => zd_L zd_e r (fun es r => zd_L zd_m r (fun h1 r => zd_L zd_m r (fun h2 r => zd_L zd_c r (fun cv r => k (t, hs, (es, h1, h2), cv) r))))))
def zd_H : List Nat → List zk_Hn
  | [] => []
  | n :: r => zd_L zd_h n (fun l _ => l ++ zd_H r)
end
