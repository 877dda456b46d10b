/-! the class's text in any world whose fixed cells are as they were, by program -/
theorem zz_gn {N k j : Nat} {x : Int32} (h : j ≠ k) : zz_at 64 (zz_to 64 N k (zz_nI x)) j = zz_at 64 N j := by
  rw [zz_at_to (Nat.lt_of_lt_of_le (zz_nI_lt x) (by decide)), if_neg h]
theorem zz_lb {a b : Nat} (h : Nat.ble a b = true) : a ≤ b := Nat.le_of_ble_eq_true h
theorem zz_nI_ofNat {m : Nat} (h : m < 2 ^ 32) : zz_nI (Int32.ofNat m) = m := by
  show (BitVec.ofNat 32 m).toNat = m
  rw [BitVec.toNat_ofNat]
  exact Nat.mod_eq_of_lt h
theorem zz_gs2 {N k m : Nat} (h : m < 2 ^ 32) : zz_at 64 (zz_to 64 N k (zz_nI (Int32.ofNat m))) k = m := by
  rw [zz_at_to (Nat.lt_of_lt_of_le (zz_nI_lt _) (by decide)), if_pos rfl, zz_nI_ofNat h]
section ZLV
variable {l : Launch} {Ts : List Cond} {D : va_G} {cl : List vw_C} {fk : Nat → Nat → Nat} {cy : Nat → ClassId} {z0 : Nat} {sp : Nat → Nat} {tys : List (ClassId × FieldType)} {G : State → Prop} {own mn : String} {nL : Nat} {cc : ByteArray} {d : Nat} {pc : Nat} {f : zz_F}
theorem zz_fl {lv lv' : List (Nat × Value)} {st : List Value} {w : zz_W} (b : zz_B l Ts D cl fk cy z0 sp tys G own mn nL cc d f (pc, lv, st, w)) (h : ∀ x ∈ lv', x ∈ lv) : zz_B l Ts D cl fk cy z0 sp tys G own mn nL cc d f (pc, lv', st, w) := by
  refine zz_B_tr b ⟨⟨Nat.le_refl _, Nat.le_refl _⟩, fun _ _ _ _ _ _ _ _ _ _ _ _ H locs _ _ _ ls hI hS hl _ _ _ _ kk => kk H locs ls hI hS ⟨hl.1, hl.2.1, fun q hq => ?_⟩⟩
  obtain ⟨x, hx, e⟩ := List.mem_map.mp hq
  exact hl.2.2 q (List.mem_map.mpr ⟨x, h x hx, e⟩)
end ZLV
theorem zz_mc {α : Type} {a : α} {l' l : List α} (h : a ∈ l) (t : ∀ x ∈ l', x ∈ l) : ∀ x ∈ a :: l', x ∈ l := List.forall_mem_cons.mpr ⟨h, t⟩
theorem zz_mn {α : Type} {l : List α} : ∀ x ∈ ([] : List α), x ∈ l := fun _ h => absurd h List.not_mem_nil
def zc_5 : Nat := 60157381031393436982960342652498291061848156298192410891485650229537548751165696823629109779628621267518541517662374475772357997035919074976920805158559939820259727364798917471023359048243098673918979404418293735254561275265638809689577607730720569599004124497841241664826948736952654179363136060159354224736486549285616271153228450730468939612762017726302195804524607380325431726958323364836207568465206262388626296823387817224835947826572362806326783682167531264998358490554939772484421425942810528512134965786228785126080854705017364181739826871320419139066103210986356788475635601851113212282524160956101663193649262428169363545720502108420174379295222990797421338740694214888967163418141991184367479033042904565888170358744012032923904733017402296541554802278500425708871109087123394628214643282397799618780812828355373279519034569260191324071060370115142300542993039535650164960837762833972769784853063219608621607281650385774932090827778862653131046424642374993096936002074844506487039530322626987494411378311642289487292410047004006497422621245088230725158510792938897794362262993598669003996744934913035536112563555984793498377525231721588626031324320289750071660759969347308127491189581061309588869876633994407929031003520191407478984793938838173544315918703915770029611813051035162804636334487549638780734110785343402575072550226627924968042409895413116495404673182297155239805357946716104231232475142262144626416560313867568966630412536192047178424820500991820098605530367119066698562827758609017217612960747896590451621412592096023526227574228302492269533921766631368797324727938167135729131595741363428326271299653683251765475440546248959336065398601137088576749707435000184661255456436117310725345161980427451482840759663892973002377112028926333567458589899493387521597637770763651300924439842486245024141716202196257142869514889112468061389494428340493528773993256619804294999763849969756460106465903064223692149454700599333595839333738613145810049211848323440050071923525806436367993851375921512547552289641099032481191402115744878586954327889737299619870543091837383817774596866298992944029233383232447477515705168282664477839533526623815752136330793117043743646797477501329163518906818603103400309971068159398070603481283358385370913805320648052694626559290190760653140336107549124586164115917064774776255919879021556422594399162001436076220855910147235543089546359311174495347
def zc_13 : Nat := 32317006071311007300714876688669951960444102669715484032130345427524655138867890893197201411522913463688717960921898019494119559150490921095088152386448283120630877367300996091750197750389652099712786118587325832734990094229642524136053006705398800217234260920837777147035184221538126236782163190982707874709044484634761539460167107065450017045975434348959977116968100257229872399524937681021239364623049773463393713449011659791130541134348890349240102587660183421502143947382514783624378069485916724290395277095199129767177286830107379026118587157769958880464343249245877279629616069905226705154938836256354620932095
def zc_14 : Nat := 32317006071311007300714876688669951960444102669715484032130345427524655138867890893197201411522913463688717960921898019494119559150490921095088152386448283120630877367300996091750197750389652099712786075708055988190223190529043652000099897633269240651895867440668488825607203767345714688064985889591113223358479798705968508292117689234019606059505873318212255044236066173513232759560782956516149434896048106771194139230583779488989882099023253677474616197801386454087209977017800930340781855091457266669434519069515683231177120946274504074314181911311443529791684152381689053745649690039538059657582239396978889850880
def zc_15 : Nat := 179769313486231590772930519078902473361797697894230657273430081157732675805500963132708477322407536021120113879871393357658789768814416375162447627531740987136174141384885390828144078790514190629459994234736406734362793553395736199193932531510222111865441333199709134492571836738970720823012576703538532450330
/-- the cells that stay: codes, their tables, the words' names and the first of their longs -/
def zFc (w : zz_W) : Prop := zz_has w 12 (3, 3, 5, (zz_g w 12).2.2.2) ∧ (zz_at 64 (zz_g w 12).2.2.2 0 = 5 ∧ zz_at 64 (zz_g w 12).2.2.2 1 = 14 ∧ zz_at 64 (zz_g w 12).2.2.2 2 = 15 ∧ zz_at 64 (zz_g w 12).2.2.2 3 = 16 ∧ zz_at 64 (zz_g w 12).2.2.2 4 = 17) ∧ zz_has w 13 (0, 0, 64, zc_13) ∧ zz_has w 14 (0, 0, 64, zc_14) ∧ zz_has w 15 (0, 0, 32, zc_15) ∧ (zz_has w 4 (3, 9, 9, (zz_g w 4).2.2.2) ∧ zz_at 64 (zz_g w 4).2.2.2 0 = 6) ∧ zz_has w 5 (1, 3, 4000, (zz_g w 5).2.2.2) ∧ ∀ f, f < 125 → zz_at 64 (zz_g w 5).2.2.2 f = zz_at 64 zc_5 f
theorem zFc_of {w w' : zz_W} (h1 : w.1 ≤ w'.1) (h : ∀ i, i = 4 ∨ i = 5 ∨ i = 12 ∨ i = 13 ∨ i = 14 ∨ i = 15 → zz_g w' i = zz_g w i) (hF : zFc w) : zFc w' := by
  obtain ⟨a1, a2, a3, a4, a5, ⟨a6, a7⟩, a8, a9⟩ := hF
  have e4 := h 4 (by omega)
  have e5 := h 5 (by omega)
  have e12 := h 12 (by omega)
  have e13 := h 13 (by omega)
  have e14 := h 14 (by omega)
  have e15 := h 15 (by omega)
  have hh : ∀ {i : Nat} {c : zz_C}, zz_g w' i = zz_g w i → zz_has w i c → zz_has w' i c := fun e q => ⟨Nat.lt_of_lt_of_le q.1 h1, q.2.1, e.trans q.2.2⟩
  refine ⟨?_, ?_, hh e13 a3, hh e14 a4, hh e15 a5, ⟨?_, ?_⟩, ?_, ?_⟩
  · rw [e12]
    exact hh e12 a1
  · rw [e12]
    exact a2
  · rw [e4]
    exact hh e4 a6
  · rw [e4]
    exact a7
  · rw [e5]
    exact hh e5 a8
  · rw [e5]
    exact a9
/-- the text at work: its row v has c bytes N, its fields are M; W0 is the world at the beginning -/
def zBr (W0 : zz_W) (v N M c : Nat) (w : zz_W) : Prop := zz_sh w ∧ ((329 ≤ W0.1 ∧ W0.1 ≤ 1000) ∧ (c = 16 ∧ v = 17 ∧ w.1 = W0.1 ∧ w.2.1 = W0.2.1 ∨ c = 34 ∧ 329 ≤ v ∧ v < w.1 ∧ W0.1 ≤ w.1 ∧ w.1 ≤ W0.1 + 1 ∧ w.2.1 ≤ W0.2.1 + 34)) ∧ zz_has w 16 (3, 13, 4, M) ∧ zz_has w v (0, 1, c, N) ∧ zz_at 64 M 1 = 0 ∧ zz_at 64 M 0 = v + 1 ∧ (∀ j, zz_at 32 N j < 128) ∧ (zFc w ∧ zz_at 64 M 2 ≤ 1) ∧ ∀ i, i ≠ 16 → i ≠ 17 → i < 329 → zz_g w i = zz_g W0 i
section ZBR
variable {W0 : zz_W} {v N M c : Nat} {w : zz_W}
theorem zBr_sh (r : zBr W0 v N M c w) : zz_sh w := r.1
theorem zBr_c (r : zBr W0 v N M c w) : c = 16 ∨ c = 34 := by rcases r.2.1.2 with h | h <;> omega
theorem zBr_v (r : zBr W0 v N M c w) : v = 17 ∨ 329 ≤ v := by rcases r.2.1.2 with h | h <;> omega
theorem zBr_w (r : zBr W0 v N M c w) : 329 ≤ w.1 ∧ w.1 ≤ 1001 ∧ v < 1001 := by
  have h0 := r.2.1.1
  rcases r.2.1.2 with h | h <;> omega
theorem zBr_16 (r : zBr W0 v N M c w) : zz_has w 16 (3, 13, 4, M) := r.2.2.1
theorem zBr_V (r : zBr W0 v N M c w) : zz_has w v (0, 1, c, N) := r.2.2.2.1
theorem zBr_co (r : zBr W0 v N M c w) : zz_at 64 M 1 = 0 := r.2.2.2.2.1
theorem zBr_va (r : zBr W0 v N M c w) : zz_at 64 M 0 = v + 1 := r.2.2.2.2.2.1
theorem zBr_b (r : zBr W0 v N M c w) : ∀ j, zz_at 32 N j < 128 := r.2.2.2.2.2.2.1
theorem zBr_F (r : zBr W0 v N M c w) : zFc w := r.2.2.2.2.2.2.2.1.1
theorem zBr_f12 (r : zBr W0 v N M c w) : zz_has w 12 (3, 3, 5, (zz_g w 12).2.2.2) := (zBr_F r).1
theorem zBr_v12_0 (r : zBr W0 v N M c w) : zz_at 64 (zz_g w 12).2.2.2 0 = 5 := (zBr_F r).2.1.1
theorem zBr_v12_1 (r : zBr W0 v N M c w) : zz_at 64 (zz_g w 12).2.2.2 1 = 14 := (zBr_F r).2.1.2.1
theorem zBr_v12_2 (r : zBr W0 v N M c w) : zz_at 64 (zz_g w 12).2.2.2 2 = 15 := (zBr_F r).2.1.2.2.1
theorem zBr_v12_3 (r : zBr W0 v N M c w) : zz_at 64 (zz_g w 12).2.2.2 3 = 16 := (zBr_F r).2.1.2.2.2.1
theorem zBr_v12_4 (r : zBr W0 v N M c w) : zz_at 64 (zz_g w 12).2.2.2 4 = 17 := (zBr_F r).2.1.2.2.2.2
theorem zBr_f13 (r : zBr W0 v N M c w) : zz_has w 13 (0, 0, 64, zc_13) := (zBr_F r).2.2.1
theorem zBr_f14 (r : zBr W0 v N M c w) : zz_has w 14 (0, 0, 64, zc_14) := (zBr_F r).2.2.2.1
theorem zBr_f15 (r : zBr W0 v N M c w) : zz_has w 15 (0, 0, 32, zc_15) := (zBr_F r).2.2.2.2.1
theorem zBr_f4 (r : zBr W0 v N M c w) : zz_has w 4 (3, 9, 9, (zz_g w 4).2.2.2) := (zBr_F r).2.2.2.2.2.1.1
theorem zBr_v4_0 (r : zBr W0 v N M c w) : zz_at 64 (zz_g w 4).2.2.2 0 = 6 := (zBr_F r).2.2.2.2.2.1.2
theorem zBr_f5 (r : zBr W0 v N M c w) : zz_has w 5 (1, 3, 4000, (zz_g w 5).2.2.2) := (zBr_F r).2.2.2.2.2.2.1
theorem zBr_n5 (r : zBr W0 v N M c w) {id : Nat} (h : id < 125) : Int64.ofNat (zz_at 64 (zz_g w 5).2.2.2 (zz_nI (Int32.ofNat id))) = Int64.ofNat (zz_at 64 zc_5 (zz_nI (Int32.ofNat id))) := by
  rw [zz_nI_ofNat (by omega), (zBr_F r).2.2.2.2.2.2.2 id h]
theorem zz_b7 : ∀ m, m < 128 → zz_nI (Int32.ofNat m).toInt8.toInt32 = m := by decide +kernel
theorem zz_i8 : ∀ m, m < 128 → (Int32.ofNat m).toInt8.toInt32 = Int32.ofNat m := by decide +kernel
theorem zBr_wr (r : zBr W0 v N M c w) {P m : Nat} (hP : P < c) (hm : m < 128) : zBr W0 v (zz_to 32 N P m) M c (zz_up w v (0, 1, c, zz_to 32 N (zz_nI (Int32.ofNat P)) (zz_nI (Int32.ofNat m).toInt8.toInt32))) := by
  have hc := zBr_c r
  have hv := zBr_v r
  have hw := zBr_w r
  rw [zz_nI_ofNat (by omega), zz_b7 m hm]
  obtain ⟨a1, a2, a3, a4, a5, a6, a7, ⟨a8, a9⟩, a10⟩ := r
  refine ⟨zz_up_sh a1, a2, zz_has_ne a1 (by omega) a3 (by omega), zz_has_up a1 a4, a5, a6, fun j => ?_, ⟨zFc_of (w := w) (Nat.le_refl _) (fun i hi => zz_up_ne a1 (by omega) (by omega)) a8, a9⟩, fun i h1 h2 h3 => (zz_up_ne a1 (by omega) (by omega)).trans (a10 i h1 h2 h3)⟩
  rw [zz_at_to (by omega)]
  split
  · exact hm
  · exact a7 j
theorem zBr_cnt (r : zBr W0 v N M c w) {m : Nat} (hm : m < 2 ^ 32) : zBr W0 v N (zz_to 64 M 3 (zz_nI (Int32.ofNat m))) c (zz_up w 16 (3, 13, 4, zz_to 64 M 3 (zz_nI (Int32.ofNat m)))) := by
  have hv := zBr_v r
  have hw := zBr_w r
  have hx : zz_nI (Int32.ofNat m) < 2 ^ 64 := by rw [zz_nI_ofNat hm]; omega
  obtain ⟨a1, a2, a3, a4, a5, a6, a7, ⟨a8, a9⟩, a10⟩ := r
  refine ⟨zz_up_sh a1, a2, zz_has_up a1 a3, zz_has_ne a1 (by decide) a4 (by omega), ?_, ?_, a7, ⟨zFc_of (w := w) (Nat.le_refl _) (fun i hi => zz_up_ne a1 (by decide) (by omega)) a8, ?_⟩, fun i h1 h2 h3 => (zz_up_ne a1 (by decide) h1).trans (a10 i h1 h2 h3)⟩
  · rw [zz_at_to hx]
    exact a5
  · rw [zz_at_to hx]
    exact a6
  · rw [zz_at_to hx]
    exact a9
theorem zBr_mb (r : zBr W0 v N M c w) : zBr W0 v N (zz_to 64 M 2 (zz_nI (Int32.ofNat 1))) c (zz_up w 16 (3, 13, 4, zz_to 64 M 2 (zz_nI (Int32.ofNat 1)))) := by
  have hv := zBr_v r
  have hw := zBr_w r
  have h1 : zz_nI (Int32.ofNat 1) = 1 := by decide
  rw [h1]
  obtain ⟨a1, a2, a3, a4, a5, a6, a7, ⟨a8, a9⟩, a10⟩ := r
  refine ⟨zz_up_sh a1, a2, zz_has_up a1 a3, zz_has_ne a1 (by decide) a4 (by omega), ?_, ?_, a7, ⟨zFc_of (w := w) (Nat.le_refl _) (fun i hi => zz_up_ne a1 (by decide) (by omega)) a8, ?_⟩, fun i h1 h2 h3 => (zz_up_ne a1 (by decide) h1).trans (a10 i h1 h2 h3)⟩
  · rw [zz_at_to (by decide)]
    exact a5
  · rw [zz_at_to (by decide)]
    exact a6
  · rw [zz_at_to (by decide)]
    exact Nat.le_refl 1
end ZBR
theorem zBr_grow {W0 : zz_W} {N M : Nat} {w : zz_W} (r : zBr W0 17 N M 16 w) : zBr W0 w.1 (zz_cp 32 N 0 0 0 16) (zz_to 64 M 0 (w.1 + 1)) 34 (zz_up (zz_up (zz_pu w (0, 1, 34, 0) 34) w.1 (0, 1, 34, zz_cp 32 N 0 0 0 16)) 16 (3, 13, 4, zz_to 64 M 0 (w.1 + 1))) := by
  have hw := zBr_w r
  obtain ⟨a1, a2, a3, a4, a5, a6, a7, ⟨a8, a9⟩, a10⟩ := r
  have s1 : zz_sh (zz_pu w (0, 1, 34, 0) 34) := zz_pu_sh a1
  have hi : w.1 < 1024 := by omega
  have hn : zz_has (zz_pu w (0, 1, 34, 0) 34) w.1 (0, 1, 34, 0) := zz_has_pu a1 hi
  have hg : ∀ i, i ≠ 16 → i < 329 → zz_g (zz_up (zz_up (zz_pu w (0, 1, 34, 0) 34) w.1 (0, 1, 34, zz_cp 32 N 0 0 0 16)) 16 (3, 13, 4, zz_to 64 M 0 (w.1 + 1))) i = zz_g w i := fun i h1 h3 => by
    rw [zz_up_ne (zz_up_sh s1) (by decide) h1, zz_up_ne s1 hi (by omega), zz_pu_g a1 hi, if_neg (by omega)]
  refine ⟨zz_up_sh (zz_up_sh s1), ⟨a2.1, Or.inr ⟨rfl, by omega, by show w.1 < w.1 + 1; omega, by show W0.1 ≤ w.1 + 1; omega, by show w.1 + 1 ≤ W0.1 + 1; omega, by show w.2.1 + 34 ≤ _; omega⟩⟩, zz_has_up (zz_up_sh s1) (zz_has_ne s1 hi (zz_has_old a1 hi a3) (by omega)), zz_has_ne (zz_up_sh s1) (by decide) (zz_has_up s1 hn) (by omega), ?_, ?_, fun j => ?_, ⟨zFc_of (by show w.1 ≤ w.1 + 1; omega) (fun i hi => hg i (by omega) (by omega)) a8, ?_⟩, fun i h1 h2 h3 => (hg i h1 h3).trans (a10 i h1 h2 h3)⟩
  · rw [zz_at_to (by omega)]
    exact a5
  · rw [zz_at_to (by omega)]
    rfl
  · rw [zz_at_cp]
    split
    · exact a7 _
    · rw [zz_at_0]; decide
  · rw [zz_at_to (by omega)]
    exact a9
theorem zl_newa {kd t q n p i : Nat} {K : zz_K} {lv : List (Nat × Value)} {st : List Value} {w : zz_W} {x : Int32} (hs : zz_sh w) (hw : w.1 = i) (hi : i < 1024) (hx : zz_nI x = q) (hq : q ≤ 1000000) : za_newa kd t n K (p, lv, .int x :: st, w) = some (n, lv, .ref i :: st, zz_pu w (kd, t, q, 0) q) := by
  subst hw
  exact ze_newa hs hi hx hq
theorem zl_copyB {t a b la lb Na Nb n p : Nat} {K : zz_K} {lv : List (Nat × Value)} {st : List Value} {w : zz_W} {i j k : Int32} (hs : zz_sh w) (ha : zz_has w a (0, t, la, Na)) (hb : zz_has w b (0, t, lb, Nb)) (h1 : zz_nI i + zz_nI k ≤ la) (h2 : zz_nI j + zz_nI k ≤ lb) (h3 : la < 2147483648) (h4 : lb < 2147483648) (hr : zz_cs st ≤ 8) (h7 : zz_a7 Na (zz_nI i) (zz_nI k) = true) : za_copyB t n K (p, lv, .int k :: .int j :: .ref b :: .int i :: .ref a :: st, w) = some (n, lv, st, zz_up w b (0, t, lb, zz_cp 32 Na Nb (zz_nI i) (zz_nI j) (zz_nI k))) := by
  unfold za_copyB
  obtain ⟨b1, b2⟩ := zz_has_b ha
  obtain ⟨c1, c2⟩ := zz_has_b hb
  have e1 : zz_ik w a t (zz_nI i) (zz_nI k) = true := by
    unfold zz_ik
    rw [b1, b2, ha.2.2]
    show (true && (true && (Nat.beq 0 0 && (Nat.beq t t && (Nat.ble (zz_nI i + zz_nI k) la && Nat.blt la 2147483648))))) = true
    rw [Nat.beq_refl t, show Nat.ble (zz_nI i + zz_nI k) la = true from Nat.ble_eq.mpr h1, show Nat.blt la 2147483648 = true from Nat.ble_eq.mpr h3]
    rfl
  have e2 : zz_ik w b t (zz_nI j) (zz_nI k) = true := by
    unfold zz_ik
    rw [c1, c2, hb.2.2]
    show (true && (true && (Nat.beq 0 0 && (Nat.beq t t && (Nat.ble (zz_nI j + zz_nI k) lb && Nat.blt lb 2147483648))))) = true
    rw [Nat.beq_refl t, show Nat.ble (zz_nI j + zz_nI k) lb = true from Nat.ble_eq.mpr h2, show Nat.blt lb 2147483648 = true from Nat.ble_eq.mpr h4]
    rfl
  show cond (zz_ik w a t (zz_nI i) (zz_nI k) && (zz_ik w b t (zz_nI j) (zz_nI k) && (Nat.ble (zz_cs st) 8 && zz_a7 (zz_g w a).2.2.2 (zz_nI i) (zz_nI k)))) (zz_fN (zz_cp 32 (zz_g w a).2.2.2 (zz_g w b).2.2.2 (zz_nI i) (zz_nI j) (zz_nI k)) (fun N => zz_st w b (0, t, (zz_g w b).2.2.1, N) none (fun w' => some ((n, lv, st, w') : zz_F)))) none = _
  rw [e1, e2, show Nat.ble (zz_cs st) 8 = true from Nat.ble_eq.mpr hr, ha.2.2, hb.2.2, h7, zz_fN_eq, zz_up_st hs hb.2.1]
  rfl
theorem zL_max {l : Launch} {D : va_G} {cy : Nat → ClassId} {z0 : Nat} {sp : Nat → Nat} {G : State → Prop} {d : Nat} (hG : zz_GF z0 G) (hP : ∀ U, G U → zz_GD zS zS2 zLg z0 sp U) (hsp : sp 18446744073709551616 = 0) {w : zz_W} {p0 p1 : Int32} (h : p0 < p1) : zz_M l zTs D zcl zFK cy z0 sp (zTys cy) G zYN zCN zMQ zRT (d + 1) 304 [.int p0, .int p1] w [.int p1] w := by
  have T := zt_304 (l := l) (D := D) (cy := cy) (z0 := z0) (sp := sp) (G := G) (d := d) zz_k0_KS hG hP
  have TK := fun (K : zz_K) (h : zz_KS l D zcl zFK cy z0 sp (zTys cy) G zYN (fun y => Cond.code (zYN y) (zCN y) (zMQ y) (zRT y) :: zTs) d K) => zt_304 h hG hP
  have b := zz_B_rf (l := l) (Ts := zTs) (D := D) (cl := zcl) (fk := zFK) (cy := cy) (z0 := z0) (sp := sp) (tys := zTys cy) (G := G) (own := "java/lang/Math") (mn := "max") (nL := 2) (cc := prog_24_method_65_code) (d := d) ((0, [(0, .int p0), (1, .int p1)], [], w) : zz_F)
  replace b := zz_fw b T (rfl : zz_ent zP_304 0 = (0, za_iload 0 1)) (ze_iload rfl)
  replace b := zz_fw b T (rfl : zz_ent zP_304 1 = (0, za_iload 1 2)) (ze_iload rfl)
  replace b := zz_fw b T (rfl : zz_ent zP_304 2 = (0, za_icmp_lt 9 5)) (ze_icmp_lt_t h)
  replace b := zz_fw b T (rfl : zz_ent zP_304 9 = (0, za_iload 1 10)) (ze_iload rfl)
  have m := zz_M_B (yn := zYN) (cn := zCN) (ml := zMQ) (rt := zRT) (y := 304) (as := [.int p0, .int p1]) rfl rfl rfl rfl rfl (by decide +kernel) (zz_lb rfl) (zz_lb rfl) (zz_end_i (zr_304.2.1 10 rfl).1) b
  exact m
theorem zL_min {l : Launch} {D : va_G} {cy : Nat → ClassId} {z0 : Nat} {sp : Nat → Nat} {G : State → Prop} {d : Nat} (hG : zz_GF z0 G) (hP : ∀ U, G U → zz_GD zS zS2 zLg z0 sp U) (hsp : sp 18446744073709551616 = 0) {w : zz_W} {p0 p1 : Int32} (h : ¬ p1 < p0) : zz_M l zTs D zcl zFK cy z0 sp (zTys cy) G zYN zCN zMQ zRT (d + 1) 303 [.int p0, .int p1] w [.int p0] w := by
  have T := zt_303 (l := l) (D := D) (cy := cy) (z0 := z0) (sp := sp) (G := G) (d := d) zz_k0_KS hG hP
  have TK := fun (K : zz_K) (h : zz_KS l D zcl zFK cy z0 sp (zTys cy) G zYN (fun y => Cond.code (zYN y) (zCN y) (zMQ y) (zRT y) :: zTs) d K) => zt_303 h hG hP
  have b := zz_B_rf (l := l) (Ts := zTs) (D := D) (cl := zcl) (fk := zFK) (cy := cy) (z0 := z0) (sp := sp) (tys := zTys cy) (G := G) (own := "java/lang/Math") (mn := "min") (nL := 2) (cc := prog_24_method_69_code) (d := d) ((0, [(0, .int p0), (1, .int p1)], [], w) : zz_F)
  replace b := zz_fw b T (rfl : zz_ent zP_303 0 = (0, za_iload 0 1)) (ze_iload rfl)
  replace b := zz_fw b T (rfl : zz_ent zP_303 1 = (0, za_iload 1 2)) (ze_iload rfl)
  replace b := zz_fw b T (rfl : zz_ent zP_303 2 = (0, za_icmp_gt 9 5)) (ze_icmp_gt_f h)
  replace b := zz_fw b T (rfl : zz_ent zP_303 5 = (0, za_iload 0 6)) (ze_iload rfl)
  replace b := zz_fw b T (rfl : zz_ent zP_303 6 = (0, za_goto 10)) (ze_goto)
  have m := zz_M_B (yn := zYN) (cn := zCN) (ml := zMQ) (rt := zRT) (y := 303) (as := [.int p0, .int p1]) rfl rfl rfl rfl rfl (by decide +kernel) (zz_lb rfl) (zz_lb rfl) (zz_end_i (zr_303.2.1 10 rfl).1) b
  exact m
theorem zL_nlen {l : Launch} {D : va_G} {cy : Nat → ClassId} {z0 : Nat} {sp : Nat → Nat} {G : State → Prop} {d : Nat} (hG : zz_GF z0 G) (hP : ∀ U, G U → zz_GD zS zS2 zLg z0 sp U) (hsp : sp 18446744073709551616 = 0) {w : zz_W} {p0 : Int32} (h : p0 < Int32.ofNat 18) : zz_M l zTs D zcl zFK cy z0 sp (zTys cy) G zYN zCN zMQ zRT (d + 2) 531 [.int (Int32.ofNat 16), .int p0, .int (Int32.ofNat 18)] w [.int (Int32.ofNat 34)] w := by
  have T := zt_531 (l := l) (D := D) (cy := cy) (z0 := z0) (sp := sp) (G := G) (d := (d + 1)) zz_k0_KS hG hP
  have TK := fun (K : zz_K) (h : zz_KS l D zcl zFK cy z0 sp (zTys cy) G zYN (fun y => Cond.code (zYN y) (zCN y) (zMQ y) (zRT y) :: zTs) (d + 1) K) => zt_531 h hG hP
  have b := zz_B_rf (l := l) (Ts := zTs) (D := D) (cl := zcl) (fk := zFK) (cy := cy) (z0 := z0) (sp := sp) (tys := zTys cy) (G := G) (own := "jdk/internal/util/ArraysSupport") (mn := "newLength") (nL := 4) (cc := prog_36_method_27_code) (d := (d + 1)) ((0, [(0, .int (Int32.ofNat 16)), (1, .int p0), (2, .int (Int32.ofNat 18))], [], w) : zz_F)
  replace b := zz_fw b T (rfl : zz_ent zP_531 0 = (0, za_iload 0 1)) (ze_iload rfl)
  replace b := zz_fw b T (rfl : zz_ent zP_531 1 = (0, za_iload 1 2)) (ze_iload rfl)
  replace b := zz_fw b T (rfl : zz_ent zP_531 2 = (0, za_iload 2 3)) (ze_iload rfl)
  replace b := zz_fSi b TK (rfl : zz_ent zP_531 3 = (0, za_callS 304 2 6)) (zL_max hG hP hsp h) rfl rfl (zz_lb rfl)
  replace b := zz_fw b T (rfl : zz_ent zP_531 6 = (0, za_iadd 7)) (ze_iadd (by decide : _ = Int32.ofNat 34))
  replace b := zz_fw b T (rfl : zz_ent zP_531 7 = (0, za_istore 3 8)) (ze_istore (lv' := [(0, _), (1, _), (2, _)]) rfl)
  replace b := zz_fw b T (rfl : zz_ent zP_531 8 = (0, za_const (.int (Int32.ofNat 0)) 9)) (ze_const)
  replace b := zz_fw b T (rfl : zz_ent zP_531 9 = (0, za_iload 3 10)) (ze_iload rfl)
  replace b := zz_fw b T (rfl : zz_ent zP_531 10 = (0, za_icmp_ge 21 13)) (ze_icmp_ge_f (by decide))
  replace b := zz_fw b T (rfl : zz_ent zP_531 13 = (0, za_iload 3 14)) (ze_iload rfl)
  replace b := zz_fw b T (rfl : zz_ent zP_531 14 = (0, za_const (.int (Int32.ofNat 2147483639)) 16)) (ze_const)
  replace b := zz_fw b T (rfl : zz_ent zP_531 16 = (0, za_icmp_gt 21 19)) (ze_icmp_gt_f (by decide))
  replace b := zz_fw b T (rfl : zz_ent zP_531 19 = (0, za_iload 3 20)) (ze_iload rfl)
  have m := zz_M_B (yn := zYN) (cn := zCN) (ml := zMQ) (rt := zRT) (y := 531) (as := [.int (Int32.ofNat 16), .int p0, .int (Int32.ofNat 18)]) rfl rfl rfl rfl rfl (by decide +kernel) (zz_lb rfl) (zz_lb rfl) (zz_end_i (zr_531.2.1 20 rfl).1) b
  exact m
theorem zL_isL {W0 : zz_W} {l : Launch} {D : va_G} {cy : Nat → ClassId} {z0 : Nat} {sp : Nat → Nat} {G : State → Prop} {d : Nat} (hG : zz_GF z0 G) (hP : ∀ U, G U → zz_GD zS zS2 zLg z0 sp U) (hsp : sp 18446744073709551616 = 0) {v N M c : Nat} {w : zz_W} (r : zBr W0 v N M c w) : zz_M l zTs D zcl zFK cy z0 sp (zTys cy) G zYN zCN zMQ zRT (d + 1) 413 [.ref 16] w [.int (Int32.ofNat 1)] w := by
  have T := zt_413 (l := l) (D := D) (cy := cy) (z0 := z0) (sp := sp) (G := G) (d := d) zz_k0_KS hG hP
  have TK := fun (K : zz_K) (h : zz_KS l D zcl zFK cy z0 sp (zTys cy) G zYN (fun y => Cond.code (zYN y) (zCN y) (zMQ y) (zRT y) :: zTs) d K) => zt_413 h hG hP
  have b := zz_B_rf (l := l) (Ts := zTs) (D := D) (cl := zcl) (fk := zFK) (cy := cy) (z0 := z0) (sp := sp) (tys := zTys cy) (G := G) (own := "java/lang/AbstractStringBuilder") (mn := "isLatin1") (nL := 1) (cc := prog_15_method_68_code) (d := d) ((0, [(0, .ref 16)], [], w) : zz_F)
  replace b := zz_fw b T (rfl : zz_ent zP_413 0 = (0, za_const (.int (Int32.ofNat 1)) 3)) (ze_const)
  replace b := zz_fw b T (rfl : zz_ent zP_413 3 = (0, za_if_eq 17 6)) (ze_if_eq_f (by decide))
  replace b := zz_fw b T (rfl : zz_ent zP_413 6 = (0, za_aload 0 7)) (ze_aload rfl)
  replace b := zz_fw b T (rfl : zz_ent zP_413 7 = (0, za_getI 13 1 10)) (ze_getI (zBr_16 r) (by decide) (congrArg Int32.ofNat (zBr_co r)))
  replace b := zz_fw b T (rfl : zz_ent zP_413 10 = (0, za_if_ne 17 13)) (ze_if_ne_f (by decide))
  replace b := zz_fw b T (rfl : zz_ent zP_413 13 = (0, za_const (.int (Int32.ofNat 1)) 14)) (ze_const)
  replace b := zz_fw b T (rfl : zz_ent zP_413 14 = (0, za_goto 18)) (ze_goto)
  have m := zz_M_B (yn := zYN) (cn := zCN) (ml := zMQ) (rt := zRT) (y := 413) (as := [.ref 16]) rfl rfl rfl rfl rfl (by decide +kernel) (zz_lb rfl) (zz_lb rfl) (zz_end_z (zr_413.2.2.1 18 rfl).1 (by decide)) b
  exact m
theorem zl_255 : ∀ m, m < 128 → ¬ Int32.ofNat 255 < Int32.ofNat m := by decide +kernel
theorem zL_can {l : Launch} {D : va_G} {cy : Nat → ClassId} {z0 : Nat} {sp : Nat → Nat} {G : State → Prop} {d : Nat} (hG : zz_GF z0 G) (hP : ∀ U, G U → zz_GD zS zS2 zLg z0 sp U) (hsp : sp 18446744073709551616 = 0) {w : zz_W} {m : Nat} (hm : m < 128) : zz_M l zTs D zcl zFK cy z0 sp (zTys cy) G zYN zCN zMQ zRT (d + 1) 421 [.int (Int32.ofNat m)] w [.int (Int32.ofNat 1)] w := by
  have T := zt_421 (l := l) (D := D) (cy := cy) (z0 := z0) (sp := sp) (G := G) (d := d) zz_k0_KS hG hP
  have TK := fun (K : zz_K) (h : zz_KS l D zcl zFK cy z0 sp (zTys cy) G zYN (fun y => Cond.code (zYN y) (zCN y) (zMQ y) (zRT y) :: zTs) d K) => zt_421 h hG hP
  have b := zz_B_rf (l := l) (Ts := zTs) (D := D) (cl := zcl) (fk := zFK) (cy := cy) (z0 := z0) (sp := sp) (tys := zTys cy) (G := G) (own := "java/lang/StringLatin1") (mn := "canEncode") (nL := 1) (cc := prog_29_method_3_code) (d := d) ((0, [(0, .int (Int32.ofNat m))], [], w) : zz_F)
  replace b := zz_fw b T (rfl : zz_ent zP_421 0 = (0, za_iload 0 1)) (ze_iload rfl)
  replace b := zz_fw b T (rfl : zz_ent zP_421 1 = (0, za_const (.int (Int32.ofNat 255)) 4)) (ze_const)
  replace b := zz_fw b T (rfl : zz_ent zP_421 4 = (0, za_icmp_gt 11 7)) (ze_icmp_gt_f (zl_255 m hm))
  replace b := zz_fw b T (rfl : zz_ent zP_421 7 = (0, za_const (.int (Int32.ofNat 1)) 8)) (ze_const)
  replace b := zz_fw b T (rfl : zz_ent zP_421 8 = (0, za_goto 12)) (ze_goto)
  have m := zz_M_B (yn := zYN) (cn := zCN) (ml := zMQ) (rt := zRT) (y := 421) (as := [.int (Int32.ofNat m)]) rfl rfl rfl rfl rfl (by decide +kernel) (zz_lb rfl) (zz_lb rfl) (zz_end_z (zr_421.2.2.1 12 rfl).1 (by decide)) b
  exact m
theorem zl_c1 : ∀ m, m < 34 → 16 < m → (Int32.ofNat m - Int32.ofNat 16) < Int32.ofNat 18 := by decide +kernel
theorem zl_sh0 (x : Int32) : x <<< (Int32.ofNat 0 &&& 31) = x := by
  show x <<< (0 : Int32) = x
  exact Int32.toBitVec.inj (by simp)
theorem zl_sr0 (x : Int32) : x >>> (Int32.ofNat 0 &&& 31) = x := by
  show x >>> (0 : Int32) = x
  exact Int32.toBitVec.inj (by simp)
theorem zL_ncap {W0 : zz_W} {l : Launch} {D : va_G} {cy : Nat → ClassId} {z0 : Nat} {sp : Nat → Nat} {G : State → Prop} {d : Nat} (hG : zz_GF z0 G) (hP : ∀ U, G U → zz_GD zS zS2 zLg z0 sp U) (hsp : sp 18446744073709551616 = 0) {N M : Nat} {w : zz_W} (r : zBr W0 17 N M 16 w) {m : Nat} (h1 : m < 34) (h2 : 16 < m) : zz_M l zTs D zcl zFK cy z0 sp (zTys cy) G zYN zCN zMQ zRT (d + 3) 492 [.ref 16, .int (Int32.ofNat m)] w [.int (Int32.ofNat 34)] w := by
  have T := zt_492 (l := l) (D := D) (cy := cy) (z0 := z0) (sp := sp) (G := G) (d := (d + 2)) zz_k0_KS hG hP
  have TK := fun (K : zz_K) (h : zz_KS l D zcl zFK cy z0 sp (zTys cy) G zYN (fun y => Cond.code (zYN y) (zCN y) (zMQ y) (zRT y) :: zTs) (d + 2) K) => zt_492 h hG hP
  have b := zz_B_rf (l := l) (Ts := zTs) (D := D) (cl := zcl) (fk := zFK) (cy := cy) (z0 := z0) (sp := sp) (tys := zTys cy) (G := G) (own := "java/lang/AbstractStringBuilder") (mn := "newCapacity") (nL := 6) (cc := prog_15_method_10_code) (d := (d + 2)) ((0, [(0, .ref 16), (1, .int (Int32.ofNat m))], [], w) : zz_F)
  replace b := zz_fw b T (rfl : zz_ent zP_492 0 = (0, za_aload 0 1)) (ze_aload rfl)
  replace b := zz_fw b T (rfl : zz_ent zP_492 1 = (0, za_getA 13 0 4)) (ze_getA (zBr_16 r) (by decide) (zBr_va r))
  replace b := zz_fw b T (rfl : zz_ent zP_492 4 = (0, za_alen 1 5)) (ze_alen (zBr_V r) (by decide) rfl)
  replace b := zz_fw b T (rfl : zz_ent zP_492 5 = (0, za_istore 2 6)) (ze_istore (lv' := [(0, _), (1, _)]) rfl)
  replace b := zz_fw b T (rfl : zz_ent zP_492 6 = (0, za_iload 1 7)) (ze_iload rfl)
  replace b := zz_fw b T (rfl : zz_ent zP_492 7 = (0, za_aload 0 8)) (ze_aload rfl)
  replace b := zz_fw b T (rfl : zz_ent zP_492 8 = (0, za_getI 13 1 11)) (ze_getI (zBr_16 r) (by decide) (congrArg Int32.ofNat (zBr_co r)))
  replace b := zz_fw b T (rfl : zz_ent zP_492 11 = (0, za_ishl 12)) (ze_ishl (zl_sh0 _))
  replace b := zz_fw b T (rfl : zz_ent zP_492 12 = (0, za_istore 3 13)) (ze_istore (lv' := [(2, _), (0, _), (1, _)]) rfl)
  replace b := zz_fw b T (rfl : zz_ent zP_492 13 = (0, za_iload 3 14)) (ze_iload rfl)
  replace b := zz_fw b T (rfl : zz_ent zP_492 14 = (0, za_iload 2 15)) (ze_iload rfl)
  replace b := zz_fw b T (rfl : zz_ent zP_492 15 = (0, za_isub 16)) (ze_isub rfl)
  replace b := zz_fw b T (rfl : zz_ent zP_492 16 = (0, za_istore 4 18)) (ze_istore (lv' := [(3, _), (2, _), (0, _), (1, _)]) rfl)
  replace b := zz_fw b T (rfl : zz_ent zP_492 18 = (0, za_iload 2 19)) (ze_iload rfl)
  replace b := zz_fw b T (rfl : zz_ent zP_492 19 = (0, za_iload 4 21)) (ze_iload rfl)
  replace b := zz_fw b T (rfl : zz_ent zP_492 21 = (0, za_iload 2 22)) (ze_iload rfl)
  replace b := zz_fw b T (rfl : zz_ent zP_492 22 = (0, za_const (.int (Int32.ofNat 2)) 23)) (ze_const)
  replace b := zz_fw b T (rfl : zz_ent zP_492 23 = (0, za_aload 0 24)) (ze_aload rfl)
  replace b := zz_fw b T (rfl : zz_ent zP_492 24 = (0, za_getI 13 1 27)) (ze_getI (zBr_16 r) (by decide) (congrArg Int32.ofNat (zBr_co r)))
  replace b := zz_fw b T (rfl : zz_ent zP_492 27 = (0, za_ishl 28)) (ze_ishl rfl)
  replace b := zz_fw b T (rfl : zz_ent zP_492 28 = (0, za_iadd 29)) (ze_iadd (by decide : _ = Int32.ofNat 18))
  replace b := zz_fSi b TK (rfl : zz_ent zP_492 29 = (0, za_callS 531 3 32)) (zL_nlen hG hP hsp (zl_c1 m h1 h2)) rfl rfl (zz_lb rfl)
  replace b := zz_fw b T (rfl : zz_ent zP_492 32 = (0, za_istore 5 34)) (ze_istore (lv' := [(4, _), (3, _), (2, _), (0, _), (1, _)]) rfl)
  replace b := zz_fw b T (rfl : zz_ent zP_492 34 = (0, za_iload 5 36)) (ze_iload rfl)
  replace b := zz_fw b T (rfl : zz_ent zP_492 36 = (0, za_const (.int (Int32.ofNat 2147483647)) 38)) (ze_const)
  replace b := zz_fw b T (rfl : zz_ent zP_492 38 = (0, za_icmp_ne 51 41)) (ze_icmp_ne_t (by decide))
  replace b := zz_fw b T (rfl : zz_ent zP_492 51 = (0, za_iload 5 53)) (ze_iload rfl)
  replace b := zz_fw b T (rfl : zz_ent zP_492 53 = (0, za_aload 0 54)) (ze_aload rfl)
  replace b := zz_fw b T (rfl : zz_ent zP_492 54 = (0, za_getI 13 1 57)) (ze_getI (zBr_16 r) (by decide) (congrArg Int32.ofNat (zBr_co r)))
  replace b := zz_fw b T (rfl : zz_ent zP_492 57 = (0, za_ishr 58)) (ze_ishr (by decide : _ = Int32.ofNat 34))
  have m := zz_M_B (yn := zYN) (cn := zCN) (ml := zMQ) (rt := zRT) (y := 492) (as := [.ref 16, .int (Int32.ofNat m)]) rfl rfl rfl rfl rfl (by decide +kernel) (zz_lb rfl) (zz_lb rfl) (zz_end_i (zr_492.2.1 58 rfl).1) b
  exact m
theorem zL_copy {W0 : zz_W} {l : Launch} {D : va_G} {cy : Nat → ClassId} {z0 : Nat} {sp : Nat → Nat} {G : State → Prop} {d : Nat} (hG : zz_GF z0 G) (hP : ∀ U, G U → zz_GD zS zS2 zLg z0 sp U) (hsp : sp 18446744073709551616 = 0) {N M : Nat} {w : zz_W} (r : zBr W0 17 N M 16 w) : zz_M l zTs D zcl zFK cy z0 sp (zTys cy) G zYN zCN zMQ zRT (d + 2) 493 [.ref 17, .int (Int32.ofNat 34)] w [.ref w.1] (zz_up (zz_pu w (0, 1, 34, 0) 34) w.1 (0, 1, 34, zz_cp 32 N 0 0 0 16)) := by
  have e1 := zBr_w r
  have hi : w.1 < 1024 := by omega
  have h329 : zz_has (zz_pu w (0, 1, 34, 0) 34) w.1 (0, 1, 34, 0) := zz_has_pu (zBr_sh r) hi
  have T := zt_493 (l := l) (D := D) (cy := cy) (z0 := z0) (sp := sp) (G := G) (d := (d + 1)) zz_k0_KS hG hP hsp
  have TK := fun (K : zz_K) (h : zz_KS l D zcl zFK cy z0 sp (zTys cy) G zYN (fun y => Cond.code (zYN y) (zCN y) (zMQ y) (zRT y) :: zTs) (d + 1) K) => zt_493 h hG hP hsp
  have b := zz_B_rf (l := l) (Ts := zTs) (D := D) (cl := zcl) (fk := zFK) (cy := cy) (z0 := z0) (sp := sp) (tys := zTys cy) (G := G) (own := "java/util/Arrays") (mn := "copyOf") (nL := 3) (cc := prog_34_method_121_code) (d := (d + 1)) ((0, [(0, .ref 17), (1, .int (Int32.ofNat 34))], [], w) : zz_F)
  replace b := zz_fw b T (rfl : zz_ent zP_493 0 = (0, za_iload 1 1)) (ze_iload rfl)
  replace b := zz_fw b T (rfl : zz_ent zP_493 1 = (0, za_aload 0 2)) (ze_aload rfl)
  replace b := zz_fw b T (rfl : zz_ent zP_493 2 = (0, za_alen 1 3)) (ze_alen (zBr_V r) (by decide) rfl)
  replace b := zz_fw b T (rfl : zz_ent zP_493 3 = (0, za_icmp_ne 14 6)) (ze_icmp_ne_t (by decide))
  replace b := zz_fw b T (rfl : zz_ent zP_493 14 = (0, za_iload 1 15)) (ze_iload rfl)
  replace b := zz_fw b T (rfl : zz_ent zP_493 15 = (0, za_newa 0 1 17)) (zl_newa (zBr_sh r) rfl hi (rfl : zz_nI (Int32.ofNat 34) = 34) (by decide))
  replace b := zz_fw b T (rfl : zz_ent zP_493 17 = (0, za_astore 2 18)) (ze_astore (lv' := [(0, _), (1, _)]) rfl)
  replace b := zz_fw b T (rfl : zz_ent zP_493 18 = (0, za_aload 0 19)) (ze_aload rfl)
  replace b := zz_fw b T (rfl : zz_ent zP_493 19 = (0, za_const (.int (Int32.ofNat 0)) 20)) (ze_const)
  replace b := zz_fw b T (rfl : zz_ent zP_493 20 = (0, za_aload 2 21)) (ze_aload rfl)
  replace b := zz_fw b T (rfl : zz_ent zP_493 21 = (0, za_const (.int (Int32.ofNat 0)) 22)) (ze_const)
  replace b := zz_fw b T (rfl : zz_ent zP_493 22 = (0, za_aload 0 23)) (ze_aload rfl)
  replace b := zz_fw b T (rfl : zz_ent zP_493 23 = (0, za_alen 1 24)) (ze_alen (zz_has_old (zBr_sh r) hi (zBr_V r)) (by decide) rfl)
  replace b := zz_fw b T (rfl : zz_ent zP_493 24 = (0, za_iload 1 25)) (ze_iload rfl)
  replace b := zz_fSi b TK (rfl : zz_ent zP_493 25 = (0, za_callS 303 2 28)) (zL_min hG hP hsp (by decide)) rfl rfl (zz_lb rfl)
  replace b := zz_fw b T (rfl : zz_ent zP_493 28 = (0, za_copyB 1 31)) (zl_copyB (zz_pu_sh (zBr_sh r)) (zz_has_old (zBr_sh r) hi (zBr_V r)) h329 (by decide) (by decide) (by decide) (by decide) (zz_lb rfl) (zz_a7_of fun q _ => Or.inl (zBr_b r _)))
  replace b := zz_fw b T (rfl : zz_ent zP_493 31 = (0, za_aload 2 32)) (ze_aload rfl)
  have m := zz_M_B (yn := zYN) (cn := zCN) (ml := zMQ) (rt := zRT) (y := 493) (as := [.ref 17, .int (Int32.ofNat 34)]) rfl rfl rfl rfl rfl (by decide +kernel) (zz_lb rfl) (zz_lb rfl) (zz_end_a (zr_493.2.2.2.2.1 32 rfl).1 (Or.inr ⟨_, rfl⟩)) b
  exact m
theorem zl_c2 : ∀ c, c < 64 → ∀ m, m < 64 → m ≤ c → Int32.ofNat m - Int32.ofNat c ≤ 0 := by decide +kernel
theorem zl_c3 : ∀ m, m < 34 → 16 < m → ¬ (Int32.ofNat m - Int32.ofNat 16 ≤ 0) := by decide +kernel
theorem zL_ens0 {W0 : zz_W} {l : Launch} {D : va_G} {cy : Nat → ClassId} {z0 : Nat} {sp : Nat → Nat} {G : State → Prop} {d : Nat} (hG : zz_GF z0 G) (hP : ∀ U, G U → zz_GD zS zS2 zLg z0 sp U) (hsp : sp 18446744073709551616 = 0) {v N M c : Nat} {w : zz_W} (r : zBr W0 v N M c w) {m : Nat} (h : m ≤ c) : zz_M l zTs D zcl zFK cy z0 sp (zTys cy) G zYN zCN zMQ zRT (d + 4) 412 [.ref 16, .int (Int32.ofNat m)] w [] w := by
  have T := zt_412 (l := l) (D := D) (cy := cy) (z0 := z0) (sp := sp) (G := G) (d := (d + 3)) zz_k0_KS hG hP
  have TK := fun (K : zz_K) (h : zz_KS l D zcl zFK cy z0 sp (zTys cy) G zYN (fun y => Cond.code (zYN y) (zCN y) (zMQ y) (zRT y) :: zTs) (d + 3) K) => zt_412 h hG hP
  have b := zz_B_rf (l := l) (Ts := zTs) (D := D) (cl := zcl) (fk := zFK) (cy := cy) (z0 := z0) (sp := sp) (tys := zTys cy) (G := G) (own := "java/lang/AbstractStringBuilder") (mn := "ensureCapacityInternal") (nL := 3) (cc := prog_15_method_9_code) (d := (d + 3)) ((0, [(0, .ref 16), (1, .int (Int32.ofNat m))], [], w) : zz_F)
  replace b := zz_fw b T (rfl : zz_ent zP_412 0 = (0, za_aload 0 1)) (ze_aload rfl)
  replace b := zz_fw b T (rfl : zz_ent zP_412 1 = (0, za_getA 13 0 4)) (ze_getA (zBr_16 r) (by decide) (zBr_va r))
  replace b := zz_fw b T (rfl : zz_ent zP_412 4 = (0, za_alen 1 5)) (ze_alen (zBr_V r) (by decide) rfl)
  replace b := zz_fw b T (rfl : zz_ent zP_412 5 = (0, za_aload 0 6)) (ze_aload rfl)
  replace b := zz_fw b T (rfl : zz_ent zP_412 6 = (0, za_getI 13 1 9)) (ze_getI (zBr_16 r) (by decide) (congrArg Int32.ofNat (zBr_co r)))
  replace b := zz_fw b T (rfl : zz_ent zP_412 9 = (0, za_ishr 10)) (ze_ishr (zl_sr0 _))
  replace b := zz_fw b T (rfl : zz_ent zP_412 10 = (0, za_istore 2 11)) (ze_istore (lv' := [(0, _), (1, _)]) rfl)
  replace b := zz_fw b T (rfl : zz_ent zP_412 11 = (0, za_iload 1 12)) (ze_iload rfl)
  replace b := zz_fw b T (rfl : zz_ent zP_412 12 = (0, za_iload 2 13)) (ze_iload rfl)
  replace b := zz_fw b T (rfl : zz_ent zP_412 13 = (0, za_isub 14)) (ze_isub rfl)
  replace b := zz_fw b T (rfl : zz_ent zP_412 14 = (0, za_if_le 38 17)) (ze_if_le_t (zl_c2 c (by have := zBr_c r; omega) m (by have := zBr_c r; omega) h))
  have m := zz_M_B (yn := zYN) (cn := zCN) (ml := zMQ) (rt := zRT) (y := 412) (as := [.ref 16, .int (Int32.ofNat m)]) rfl rfl rfl rfl rfl (by decide +kernel) (zz_lb rfl) (zz_lb rfl) (zz_end_v (zr_412.1 38 rfl).1) b
  exact m
theorem zL_ens1 {W0 : zz_W} {l : Launch} {D : va_G} {cy : Nat → ClassId} {z0 : Nat} {sp : Nat → Nat} {G : State → Prop} {d : Nat} (hG : zz_GF z0 G) (hP : ∀ U, G U → zz_GD zS zS2 zLg z0 sp U) (hsp : sp 18446744073709551616 = 0) {N M : Nat} {w : zz_W} (r : zBr W0 17 N M 16 w) {m : Nat} (h1 : m < 34) (h2 : 16 < m) : ∃ w', zz_M l zTs D zcl zFK cy z0 sp (zTys cy) G zYN zCN zMQ zRT (d + 4) 412 [.ref 16, .int (Int32.ofNat m)] w [] w' ∧ zBr W0 w.1 (zz_cp 32 N 0 0 0 16) (zz_to 64 M 0 (w.1 + 1)) 34 w' := by
  have hi : w.1 < 1024 := by have := zBr_w r; omega
  have T := zt_412 (l := l) (D := D) (cy := cy) (z0 := z0) (sp := sp) (G := G) (d := (d + 3)) zz_k0_KS hG hP
  have TK := fun (K : zz_K) (h : zz_KS l D zcl zFK cy z0 sp (zTys cy) G zYN (fun y => Cond.code (zYN y) (zCN y) (zMQ y) (zRT y) :: zTs) (d + 3) K) => zt_412 h hG hP
  have b := zz_B_rf (l := l) (Ts := zTs) (D := D) (cl := zcl) (fk := zFK) (cy := cy) (z0 := z0) (sp := sp) (tys := zTys cy) (G := G) (own := "java/lang/AbstractStringBuilder") (mn := "ensureCapacityInternal") (nL := 3) (cc := prog_15_method_9_code) (d := (d + 3)) ((0, [(0, .ref 16), (1, .int (Int32.ofNat m))], [], w) : zz_F)
  replace b := zz_fw b T (rfl : zz_ent zP_412 0 = (0, za_aload 0 1)) (ze_aload rfl)
  replace b := zz_fw b T (rfl : zz_ent zP_412 1 = (0, za_getA 13 0 4)) (ze_getA (zBr_16 r) (by decide) (zBr_va r))
  replace b := zz_fw b T (rfl : zz_ent zP_412 4 = (0, za_alen 1 5)) (ze_alen (zBr_V r) (by decide) rfl)
  replace b := zz_fw b T (rfl : zz_ent zP_412 5 = (0, za_aload 0 6)) (ze_aload rfl)
  replace b := zz_fw b T (rfl : zz_ent zP_412 6 = (0, za_getI 13 1 9)) (ze_getI (zBr_16 r) (by decide) (congrArg Int32.ofNat (zBr_co r)))
  replace b := zz_fw b T (rfl : zz_ent zP_412 9 = (0, za_ishr 10)) (ze_ishr (zl_sr0 _))
  replace b := zz_fw b T (rfl : zz_ent zP_412 10 = (0, za_istore 2 11)) (ze_istore (lv' := [(0, _), (1, _)]) rfl)
  replace b := zz_fw b T (rfl : zz_ent zP_412 11 = (0, za_iload 1 12)) (ze_iload rfl)
  replace b := zz_fw b T (rfl : zz_ent zP_412 12 = (0, za_iload 2 13)) (ze_iload rfl)
  replace b := zz_fw b T (rfl : zz_ent zP_412 13 = (0, za_isub 14)) (ze_isub rfl)
  replace b := zz_fw b T (rfl : zz_ent zP_412 14 = (0, za_if_le 38 17)) (ze_if_le_f (zl_c3 m h1 h2))
  replace b := zz_fw b T (rfl : zz_ent zP_412 17 = (0, za_aload 0 18)) (ze_aload rfl)
  replace b := zz_fw b T (rfl : zz_ent zP_412 18 = (0, za_aload 0 19)) (ze_aload rfl)
  replace b := zz_fw b T (rfl : zz_ent zP_412 19 = (0, za_getA 13 0 22)) (ze_getA (zBr_16 r) (by decide) (zBr_va r))
  replace b := zz_fw b T (rfl : zz_ent zP_412 22 = (0, za_aload 0 23)) (ze_aload rfl)
  replace b := zz_fw b T (rfl : zz_ent zP_412 23 = (0, za_iload 1 24)) (ze_iload rfl)
  replace b := zz_fVi b TK (rfl : zz_ent zP_412 24 = (0, za_callV 13 492 1 27)) (zL_ncap hG hP hsp r h1 h2) rfl rfl (zz_has_c (zBr_16 r)) (zz_lb rfl)
  replace b := zz_fw b T (rfl : zz_ent zP_412 27 = (0, za_aload 0 28)) (ze_aload rfl)
  replace b := zz_fw b T (rfl : zz_ent zP_412 28 = (0, za_getI 13 1 31)) (ze_getI (zBr_16 r) (by decide) (congrArg Int32.ofNat (zBr_co r)))
  replace b := zz_fw b T (rfl : zz_ent zP_412 31 = (0, za_ishl 32)) (ze_ishl (zl_sh0 _))
  replace b := zz_fSi b TK (rfl : zz_ent zP_412 32 = (0, za_callS 493 2 35)) (zL_copy hG hP hsp r) rfl rfl (zz_lb rfl)
  replace b := zz_fw b T (rfl : zz_ent zP_412 35 = (0, za_putA 13 0 38)) (ze_putA (zz_up_sh (zz_pu_sh (zBr_sh r))) (zz_has_ne (zz_pu_sh (zBr_sh r)) hi (zz_has_old (zBr_sh r) hi (zBr_16 r)) (by have := zBr_w r; omega)) (by decide) (by have := zBr_w r; omega))
  have m := zz_M_B (yn := zYN) (cn := zCN) (ml := zMQ) (rt := zRT) (y := 412) (as := [.ref 16, .int (Int32.ofNat m)]) rfl rfl rfl rfl rfl (by decide +kernel) (zz_lb rfl) (zz_lb rfl) (zz_end_v (zr_412.1 38 rfl).1) b
  exact ⟨_, m, zBr_grow r⟩
/-- the row N begins with the text T -/
def zTx (T : List Nat) (N : Nat) : Prop := ∀ j, j < T.length → zz_at 32 N j = T.getD j 0
/-- the class's text is T -/
def zB (W0 : zz_W) (T : List Nat) (w : zz_W) : Prop := ∃ v N M c, zBr W0 v N M c w ∧ zz_at 64 M 3 = T.length ∧ T.length ≤ c ∧ zTx T N
theorem zTx_snoc {T : List Nat} {N x : Nat} (h : zTx T N) (hx : x < 2 ^ 32) : zTx (T ++ [x]) (zz_to 32 N T.length x) := by
  intro j hj
  rw [List.length_append, List.length_singleton] at hj
  rw [zz_at_to hx, List.getD_eq_getElem?_getD]
  by_cases e : j = T.length
  · subst e
    rw [if_pos rfl, List.getElem?_append_right (Nat.le_refl _), Nat.sub_self]
    rfl
  · rw [if_neg e, List.getElem?_append_left (by omega), ← List.getD_eq_getElem?_getD]
    exact h j (by omega)
theorem zTx_cp {T : List Nat} {N : Nat} (h : zTx T N) (hT : T.length ≤ 16) : zTx T (zz_cp 32 N 0 0 0 16) := by
  intro j hj
  rw [zz_at_cp, if_pos (by omega), Nat.sub_zero, Nat.zero_add]
  exact h j hj
/-- room for m signs -/
theorem zB_room {W0 : zz_W} {l : Launch} {D : va_G} {cy : Nat → ClassId} {z0 : Nat} {sp : Nat → Nat} {G : State → Prop} {d : Nat} (hG : zz_GF z0 G) (hP : ∀ U, G U → zz_GD zS zS2 zLg z0 sp U) (hsp : sp 18446744073709551616 = 0) {T : List Nat} {w : zz_W} (hB : zB W0 T w) {m : Nat} (hm : m < 34) (hT : T.length ≤ m) : ∃ w' v N M c, zz_M l zTs D zcl zFK cy z0 sp (zTys cy) G zYN zCN zMQ zRT (d + 4) 412 [.ref 16, .int (Int32.ofNat m)] w [] w' ∧ zBr W0 v N M c w' ∧ zz_at 64 M 3 = T.length ∧ m ≤ c ∧ zTx T N := by
  obtain ⟨v, N, M, c, r, hn, hc, hx⟩ := hB
  by_cases h : m ≤ c
  · exact ⟨w, v, N, M, c, zL_ens0 hG hP hsp r h, r, hn, h, hx⟩
  · have e : c = 16 := by have := zBr_c r; omega
    have e2 : v = 17 := by have := r.2.1.2; omega
    subst e e2
    obtain ⟨w', hM, r'⟩ := zL_ens1 (d := d) (l := l) (D := D) (cy := cy) (sp := sp) hG hP hsp r hm (by omega)
    exact ⟨w', _, _, _, _, hM, r', by rw [zz_at_to (by have := zBr_w r; omega)]; exact hn, by omega, zTx_cp hx hc⟩
theorem zL_apC {W0 : zz_W} {l : Launch} {D : va_G} {cy : Nat → ClassId} {z0 : Nat} {sp : Nat → Nat} {G : State → Prop} {d : Nat} (hG : zz_GF z0 G) (hP : ∀ U, G U → zz_GD zS zS2 zLg z0 sp U) (hsp : sp 18446744073709551616 = 0) {T : List Nat} {w : zz_W} (hB : zB W0 T w) (hT : T.length < 33) {x : Nat} (hm : x < 128) : ∃ w', zz_M l zTs D zcl zFK cy z0 sp (zTys cy) G zYN zCN zMQ zRT (d + 5) 299 [.ref 16, .int (Int32.ofNat x)] w [.ref 16] w' ∧ zB W0 (T ++ [x]) w' := by
  have hB0 := hB
  obtain ⟨v0, N0, M0, c0, r0, hn0, hc0, hx0⟩ := hB0
  have h16 := zBr_16 r0
  have T9 := zt_299 (l := l) (D := D) (cy := cy) (z0 := z0) (sp := sp) (G := G) (d := (d + 4)) zz_k0_KS hG hP
  have TK := fun (K : zz_K) (h : zz_KS l D zcl zFK cy z0 sp (zTys cy) G zYN (fun y => Cond.code (zYN y) (zCN y) (zMQ y) (zRT y) :: zTs) (d + 4) K) => zt_299 h hG hP
  have b := zz_B_rf (l := l) (Ts := zTs) (D := D) (cl := zcl) (fk := zFK) (cy := cy) (z0 := z0) (sp := sp) (tys := zTys cy) (G := G) (own := "java/lang/AbstractStringBuilder") (mn := "append") (nL := 2) (cc := prog_15_method_31_code) (d := (d + 4)) ((0, [(0, .ref 16), (1, .int (Int32.ofNat x))], [], w) : zz_F)
  replace b := zz_fw b T9 (rfl : zz_ent zP_299 0 = (0, za_aload 0 1)) (ze_aload rfl)
  replace b := zz_fw b T9 (rfl : zz_ent zP_299 1 = (0, za_aload 0 2)) (ze_aload rfl)
  replace b := zz_fw b T9 (rfl : zz_ent zP_299 2 = (0, za_getI 13 3 5)) (ze_getI h16 (by decide) (congrArg Int32.ofNat hn0))
  replace b := zz_fw b T9 (rfl : zz_ent zP_299 5 = (0, za_const (.int (Int32.ofNat 1)) 6)) (ze_const)
  replace b := zz_fw b T9 (rfl : zz_ent zP_299 6 = (0, za_iadd 7)) (ze_iadd (Int32.ofNat_add T.length 1).symm)
  obtain ⟨w0, v, N, M, c, hM, r, hn, hc, hx⟩ := zB_room (d := d) (l := l) (D := D) (cy := cy) (sp := sp) hG hP hsp hB (m := T.length + 1) (by omega) (by omega)
  replace b := zz_fVv b TK (rfl : zz_ent zP_299 7 = (0, za_callV 13 412 1 10)) hM rfl rfl (zz_has_c h16) (zz_lb rfl)
  replace b := zz_fw b T9 (rfl : zz_ent zP_299 10 = (0, za_aload 0 11)) (ze_aload rfl)
  replace b := zz_fVi b TK (rfl : zz_ent zP_299 11 = (0, za_callV 13 413 0 14)) (zL_isL hG hP hsp r) rfl rfl (zz_has_c (zBr_16 r)) (zz_lb rfl)
  replace b := zz_fw b T9 (rfl : zz_ent zP_299 14 = (0, za_if_eq 45 17)) (ze_if_eq_f (by decide))
  replace b := zz_fw b T9 (rfl : zz_ent zP_299 17 = (0, za_iload 1 18)) (ze_iload rfl)
  replace b := zz_fSi b TK (rfl : zz_ent zP_299 18 = (0, za_callS 421 1 21)) (zL_can hG hP hsp hm) rfl rfl (zz_lb rfl)
  replace b := zz_fw b T9 (rfl : zz_ent zP_299 21 = (0, za_if_eq 45 24)) (ze_if_eq_f (by decide))
  replace b := zz_fw b T9 (rfl : zz_ent zP_299 24 = (0, za_aload 0 25)) (ze_aload rfl)
  replace b := zz_fw b T9 (rfl : zz_ent zP_299 25 = (0, za_getA 13 0 28)) (ze_getA (zBr_16 r) (by decide) (zBr_va r))
  replace b := zz_fw b T9 (rfl : zz_ent zP_299 28 = (0, za_aload 0 29)) (ze_aload rfl)
  replace b := zz_fw b T9 (rfl : zz_ent zP_299 29 = (0, za_dup 30)) (ze_dup rfl)
  replace b := zz_fw b T9 (rfl : zz_ent zP_299 30 = (0, za_getI 13 3 33)) (ze_getI (zBr_16 r) (by decide) (congrArg Int32.ofNat hn))
  replace b := zz_fw b T9 (rfl : zz_ent zP_299 33 = (0, za_dup_x1 34)) (ze_dup_x1 ⟨rfl, rfl⟩)
  replace b := zz_fw b T9 (rfl : zz_ent zP_299 34 = (0, za_const (.int (Int32.ofNat 1)) 35)) (ze_const)
  replace b := zz_fw b T9 (rfl : zz_ent zP_299 35 = (0, za_iadd 36)) (ze_iadd (Int32.ofNat_add T.length 1).symm)
  replace b := zz_fw b T9 (rfl : zz_ent zP_299 36 = (0, za_putI 13 3 39)) (ze_putI (zBr_sh r) (zBr_16 r) (by decide))
  have r1 := zBr_cnt r (m := (T.length + 1)) (by omega)
  replace b := zz_fw b T9 (rfl : zz_ent zP_299 39 = (0, za_iload 1 40)) (ze_iload rfl)
  replace b := zz_fw b T9 (rfl : zz_ent zP_299 40 = (0, za_i2b 41)) (ze_i2b (zz_i8 x hm))
  replace b := zz_fw b T9 (rfl : zz_ent zP_299 41 = (0, za_astB 1 42)) (ze_astB (zBr_sh r1) (zBr_V r1) (by rw [zz_nI_ofNat (by omega)]; omega) (by rcases zBr_c r1 with h | h <;> rw [h] <;> decide))
  have r2 := zBr_wr r1 (P := T.length) (m := x) (by omega) (by omega)
  replace b := zz_fw b T9 (rfl : zz_ent zP_299 42 = (0, za_goto 75)) (ze_goto)
  replace b := zz_fw b T9 (rfl : zz_ent zP_299 75 = (0, za_aload 0 76)) (ze_aload rfl)
  have m := zz_M_B (yn := zYN) (cn := zCN) (ml := zMQ) (rt := zRT) (y := 299) (as := [.ref 16, .int (Int32.ofNat x)]) rfl rfl rfl rfl rfl (by decide +kernel) (zz_lb rfl) (zz_lb rfl) (zz_end_a (zr_299.2.2.2.2.1 76 rfl).1 (Or.inl ⟨_, rfl⟩)) b
  exact ⟨_, m, _, _, _, _, r2, by rw [zz_gs2 (by omega), List.length_append]; rfl, by rw [List.length_append]; exact hc, zTx_snoc hx (by omega)⟩
theorem zB_ic {W0 : zz_W} {T : List Nat} {w : zz_W} (hB : zB W0 T w) : zz_ic w 16 13 = true := by
  obtain ⟨v, N, M, c, r, -⟩ := hB
  exact zz_has_c (zBr_16 r)
theorem zL_apc {W0 : zz_W} {l : Launch} {D : va_G} {cy : Nat → ClassId} {z0 : Nat} {sp : Nat → Nat} {G : State → Prop} {d : Nat} (hG : zz_GF z0 G) (hP : ∀ U, G U → zz_GD zS zS2 zLg z0 sp U) (hsp : sp 18446744073709551616 = 0) {T : List Nat} {w : zz_W} (hB : zB W0 T w) (hT : T.length < 33) {x : Nat} (hm : x < 128) : ∃ w', zz_M l zTs D zcl zFK cy z0 sp (zTys cy) G zYN zCN zMQ zRT (d + 6) 158 [.ref 16, .int (Int32.ofNat x)] w [.ref 16] w' ∧ zB W0 (T ++ [x]) w' := by
  have T9 := zt_158 (l := l) (D := D) (cy := cy) (z0 := z0) (sp := sp) (G := G) (d := (d + 5)) zz_k0_KS hG hP
  have TK := fun (K : zz_K) (h : zz_KS l D zcl zFK cy z0 sp (zTys cy) G zYN (fun y => Cond.code (zYN y) (zCN y) (zMQ y) (zRT y) :: zTs) (d + 5) K) => zt_158 h hG hP
  have b := zz_B_rf (l := l) (Ts := zTs) (D := D) (cl := zcl) (fk := zFK) (cy := cy) (z0 := z0) (sp := sp) (tys := zTys cy) (G := G) (own := "java/lang/StringBuilder") (mn := "append") (nL := 2) (cc := prog_27_method_14_code) (d := (d + 5)) ((0, [(0, .ref 16), (1, .int (Int32.ofNat x))], [], w) : zz_F)
  replace b := zz_fw b T9 (rfl : zz_ent zP_158 0 = (0, za_aload 0 1)) (ze_aload rfl)
  replace b := zz_fw b T9 (rfl : zz_ent zP_158 1 = (0, za_iload 1 2)) (ze_iload rfl)
  obtain ⟨w0, hM, hB1⟩ := zL_apC (d := d) (l := l) (D := D) (cy := cy) (sp := sp) hG hP hsp hB hT hm
  replace b := zz_fVi b TK (rfl : zz_ent zP_158 2 = (0, za_callV 13 299 1 5)) hM rfl rfl (zB_ic hB) (zz_lb rfl)
  replace b := zz_fw b T9 (rfl : zz_ent zP_158 5 = (0, za_pop 6)) (ze_pop rfl)
  replace b := zz_fw b T9 (rfl : zz_ent zP_158 6 = (0, za_aload 0 7)) (ze_aload rfl)
  have m := zz_M_B (yn := zYN) (cn := zCN) (ml := zMQ) (rt := zRT) (y := 158) (as := [.ref 16, .int (Int32.ofNat x)]) rfl rfl rfl rfl rfl (by decide +kernel) (zz_lb rfl) (zz_lb rfl) (zz_end_a (zr_158.2.2.2.2.1 7 rfl).1 (Or.inl ⟨_, rfl⟩)) b
  exact ⟨_, m, hB1⟩
