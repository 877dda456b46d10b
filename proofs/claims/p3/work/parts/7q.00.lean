/-! where something is thrown: method, place, what, its class -/
def zXL : List ((Nat × Nat) × String × Nat) := [((6, 43), "java/lang/IllegalArgumentException", 14),
  ((17, 14), "java/lang/IllegalArgumentException", 14),
  ((18, 21), "java/lang/IndexOutOfBoundsException", 17),
  ((19, 26), "java/lang/IndexOutOfBoundsException", 17),
  ((16, 157), "java/lang/IllegalArgumentException", 14),
  ((22, 92), "java/lang/IllegalArgumentException", 14),
  ((23, 26), "java/lang/IndexOutOfBoundsException", 17),
  ((69, 7), "java/lang/IllegalStateException", 15),
  ((75, 7), "java/lang/IllegalStateException", 15),
  ((65, 18), "java/util/NoSuchElementException", 16),
  ((7, 24), "java/util/NoSuchElementException", 16),
  ((8, 73), "java/lang/IllegalArgumentException", 14),
  ((9, 20), "java/util/NoSuchElementException", 16),
  ((9, 123), "java/lang/IllegalArgumentException", 14),
  ((11, 20), "java/util/NoSuchElementException", 16),
  ((11, 118), "java/lang/IllegalArgumentException", 14),
  ((12, 20), "java/util/NoSuchElementException", 16),
  ((12, 148), "java/lang/IllegalArgumentException", 14),
  ((13, 9), "java/lang/UnsupportedOperationException", 18),
  ((2, 12), "java/lang/IllegalArgumentException", 14),
  ((10, 20), "java/util/NoSuchElementException", 16),
  ((10, 50), "java/util/NoSuchElementException", 16),
  ((10, 107), "java/util/NoSuchElementException", 16),
  ((15, 17), "java/lang/IllegalStateException", 15),
  ((15, 39), "java/lang/IllegalArgumentException", 14),
  ((1, 47), "java/lang/IllegalArgumentException", 14),
  ((1, 88), "java/lang/UnsupportedOperationException", 18)]
def zXE (y pc : Nat) : String × Nat := ((zXL.find? (fun p => Nat.beq p.1.1 y && Nat.beq p.1.2 pc)).map (fun p => p.2)).getD ("", 0)
/-- a throw there does what it should -/
def zTXp (l : Launch) (D : va_G) (cy : Nat → ClassId) (z0 : Nat) (sp : Nat → Nat) (G : State → Prop) : Prop :=
  ∀ y pc : Nat, zXL.any (fun p => Nat.beq p.1.1 y && Nat.beq p.1.2 pc) = true → ∀ (d : Nat) (lv : List (Nat × Value)) (w : zz_W), 5 ≤ d → zk_sh 64 w → w.1 < 16 * 64 → zz_TX l zTs D zcl zFK cy z0 sp (zTys cy) G (zYN y).cls (zYN y).name (zMQ y) (zCN y) d (pc, lv, [], w) (zXE y pc).1 (zz_pu w (3, (zXE y pc).2, 0, 0) 6)
