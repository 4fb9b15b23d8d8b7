section
/-! LM, part 41, by program (wip/p2/accq.py): the quarter that is being read -/
theorem wq_d0 {h : LH} (hI : INV h) {i v : Int} (d : Int) (e : i = 154 + 8 * d) (h0 : 0 ≤ d) (h1 : d ≤ 13) (v0 : 0 ≤ v) (v1 : v ≤ 3) : INV (wr h 188 i v) := wX_quarters hI (by omega) (by unfold sens; omega) (ix := (0, 154, 258, 8)) (lo := 0) (hi := 3) (by decide +kernel) (invs (s := 8) (k := d) e h0 (by omega)) v0 v1 ⟨by omega, by omega⟩
theorem rw_d0 {h : LH} (hr : RNG h) {i : Int} (d : Int) (e : i = 154 + 8 * d) (h0 : 0 ≤ d) (h1 : d ≤ 13) : 0 ≤ rd h 188 i ∧ rd h 188 i ≤ 3 := rX_quarters hr (by omega) (ix := (0, 154, 258, 8)) (st := 1) (by decide +kernel) (invs (s := 8) (k := d) e h0 (by omega))
theorem wq_d1 {h : LH} (hI : INV h) {i v : Int} (d : Int) (e : i = 155 + 8 * d) (h0 : 0 ≤ d) (h1 : d ≤ 13) (v0 : 0 ≤ v) (v1 : v ≤ 9) : INV (wr h 188 i v) := wX_quarters hI (by omega) (by unfold sens; omega) (ix := (0, 155, 259, 8)) (lo := 0) (hi := 9) (by decide +kernel) (invs (s := 8) (k := d) e h0 (by omega)) v0 v1 ⟨by omega, by omega⟩
theorem rw_d1 {h : LH} (hr : RNG h) {i : Int} (d : Int) (e : i = 155 + 8 * d) (h0 : 0 ≤ d) (h1 : d ≤ 13) : 0 ≤ rd h 188 i ∧ rd h 188 i ≤ 9 := rX_quarters hr (by omega) (ix := (0, 155, 259, 8)) (st := 1) (by decide +kernel) (invs (s := 8) (k := d) e h0 (by omega))
theorem wq_d2 {h : LH} (hI : INV h) {i v : Int} (d : Int) (e : i = 156 + 8 * d) (h0 : 0 ≤ d) (h1 : d ≤ 13) (v0 : 0 ≤ v) (v1 : v ≤ 9) : INV (wr h 188 i v) := wX_quarters hI (by omega) (by unfold sens; omega) (ix := (0, 156, 260, 8)) (lo := 0) (hi := 9) (by decide +kernel) (invs (s := 8) (k := d) e h0 (by omega)) v0 v1 ⟨by omega, by omega⟩
theorem rw_d2 {h : LH} (hr : RNG h) {i : Int} (d : Int) (e : i = 156 + 8 * d) (h0 : 0 ≤ d) (h1 : d ≤ 13) : 0 ≤ rd h 188 i ∧ rd h 188 i ≤ 9 := rX_quarters hr (by omega) (ix := (0, 156, 260, 8)) (st := 1) (by decide +kernel) (invs (s := 8) (k := d) e h0 (by omega))
theorem wq_d3 {h : LH} (hI : INV h) {i v : Int} (d : Int) (e : i = 157 + 8 * d) (h0 : 0 ≤ d) (h1 : d ≤ 13) (v0 : 0 ≤ v) (v1 : v ≤ 23) : INV (wr h 188 i v) := wX_quarters hI (by omega) (by unfold sens; omega) (ix := (0, 157, 261, 8)) (lo := 0) (hi := 23) (by decide +kernel) (invs (s := 8) (k := d) e h0 (by omega)) v0 v1 ⟨by omega, by omega⟩
theorem rw_d3 {h : LH} (hr : RNG h) {i : Int} (d : Int) (e : i = 157 + 8 * d) (h0 : 0 ≤ d) (h1 : d ≤ 13) : 0 ≤ rd h 188 i ∧ rd h 188 i ≤ 23 := rX_quarters hr (by omega) (ix := (0, 157, 261, 8)) (st := 1) (by decide +kernel) (invs (s := 8) (k := d) e h0 (by omega))
theorem wq_d4 {h : LH} (hI : INV h) {i v : Int} (d : Int) (e : i = 158 + 8 * d) (h0 : 0 ≤ d) (h1 : d ≤ 13) (v0 : 0 ≤ v) (v1 : v ≤ 24) : INV (wr h 188 i v) := wX_quarters hI (by omega) (by unfold sens; omega) (ix := (0, 158, 262, 8)) (lo := 0) (hi := 24) (by decide +kernel) (invs (s := 8) (k := d) e h0 (by omega)) v0 v1 ⟨by omega, by omega⟩
theorem rw_d4 {h : LH} (hr : RNG h) {i : Int} (d : Int) (e : i = 158 + 8 * d) (h0 : 0 ≤ d) (h1 : d ≤ 13) : 0 ≤ rd h 188 i ∧ rd h 188 i ≤ 24 := rX_quarters hr (by omega) (ix := (0, 158, 262, 8)) (st := 1) (by decide +kernel) (invs (s := 8) (k := d) e h0 (by omega))
theorem wq_d5 {h : LH} (hI : INV h) {i v : Int} (d : Int) (e : i = 159 + 8 * d) (h0 : 0 ≤ d) (h1 : d ≤ 13) (v0 : -1 ≤ v) (v1 : v ≤ 3) : INV (wr h 188 i v) := wX_quarters hI (by omega) (by unfold sens; omega) (ix := (0, 159, 263, 8)) (lo := -1) (hi := 3) (by decide +kernel) (invs (s := 8) (k := d) e h0 (by omega)) v0 v1 ⟨by omega, by omega⟩
theorem rw_d5 {h : LH} (hr : RNG h) {i : Int} (d : Int) (e : i = 159 + 8 * d) (h0 : 0 ≤ d) (h1 : d ≤ 13) : -1 ≤ rd h 188 i ∧ rd h 188 i ≤ 3 := rX_quarters hr (by omega) (ix := (0, 159, 263, 8)) (st := 1) (by decide +kernel) (invs (s := 8) (k := d) e h0 (by omega))
theorem wq_d6 {h : LH} (hI : INV h) {i v : Int} (d : Int) (e : i = 160 + 8 * d) (h0 : 0 ≤ d) (h1 : d ≤ 13) (v0 : 0 ≤ v) (v1 : v ≤ 9) : INV (wr h 188 i v) := wX_quarters hI (by omega) (by unfold sens; omega) (ix := (0, 160, 264, 8)) (lo := 0) (hi := 9) (by decide +kernel) (invs (s := 8) (k := d) e h0 (by omega)) v0 v1 ⟨by omega, by omega⟩
theorem rw_d6 {h : LH} (hr : RNG h) {i : Int} (d : Int) (e : i = 160 + 8 * d) (h0 : 0 ≤ d) (h1 : d ≤ 13) : 0 ≤ rd h 188 i ∧ rd h 188 i ≤ 9 := rX_quarters hr (by omega) (ix := (0, 160, 264, 8)) (st := 1) (by decide +kernel) (invs (s := 8) (k := d) e h0 (by omega))
theorem wq_d7 {h : LH} (hI : INV h) {i v : Int} (d : Int) (e : i = 161 + 8 * d) (h0 : 0 ≤ d) (h1 : d ≤ 13) (v0 : 0 ≤ v) (v1 : v ≤ 9) : INV (wr h 188 i v) := wX_quarters hI (by omega) (by unfold sens; omega) (ix := (0, 161, 265, 8)) (lo := 0) (hi := 9) (by decide +kernel) (invs (s := 8) (k := d) e h0 (by omega)) v0 v1 ⟨by omega, by omega⟩
theorem rw_d7 {h : LH} (hr : RNG h) {i : Int} (d : Int) (e : i = 161 + 8 * d) (h0 : 0 ≤ d) (h1 : d ≤ 13) : 0 ≤ rd h 188 i ∧ rd h 188 i ≤ 9 := rX_quarters hr (by omega) (ix := (0, 161, 265, 8)) (st := 1) (by decide +kernel) (invs (s := 8) (k := d) e h0 (by omega))
theorem wq_p0 {h : LH} (hI : INV h) {i v : Int} (d : Int) (e : i = 266 + 4 * d) (h0 : 0 ≤ d) (h1 : d ≤ 5) (v0 : 0 ≤ v) (v1 : v ≤ 3) : INV (wr h 188 i v) := wX_quarters hI (by omega) (by unfold sens; omega) (ix := (0, 266, 286, 4)) (lo := 0) (hi := 3) (by decide +kernel) (invs (s := 4) (k := d) e h0 (by omega)) v0 v1 ⟨by omega, by omega⟩
theorem wq_p1 {h : LH} (hI : INV h) {i v : Int} (d : Int) (e : i = 267 + 4 * d) (h0 : 0 ≤ d) (h1 : d ≤ 5) (v0 : 0 ≤ v) (v1 : v ≤ 9) : INV (wr h 188 i v) := wX_quarters hI (by omega) (by unfold sens; omega) (ix := (0, 267, 287, 4)) (lo := 0) (hi := 9) (by decide +kernel) (invs (s := 4) (k := d) e h0 (by omega)) v0 v1 ⟨by omega, by omega⟩
theorem wq_p2 {h : LH} (hI : INV h) {i v : Int} (d : Int) (e : i = 268 + 4 * d) (h0 : 0 ≤ d) (h1 : d ≤ 5) (v0 : 0 ≤ v) (v1 : v ≤ 9) : INV (wr h 188 i v) := wX_quarters hI (by omega) (by unfold sens; omega) (ix := (0, 268, 288, 4)) (lo := 0) (hi := 9) (by decide +kernel) (invs (s := 4) (k := d) e h0 (by omega)) v0 v1 ⟨by omega, by omega⟩
theorem wq_p3 {h : LH} (hI : INV h) {i v : Int} (d : Int) (e : i = 269 + 4 * d) (h0 : 0 ≤ d) (h1 : d ≤ 5) (v0 : 0 ≤ v) (v1 : v ≤ 24) : INV (wr h 188 i v) := wX_quarters hI (by omega) (by unfold sens; omega) (ix := (0, 269, 289, 4)) (lo := 0) (hi := 24) (by decide +kernel) (invs (s := 4) (k := d) e h0 (by omega)) v0 v1 ⟨by omega, by omega⟩
theorem rw_rooms {h : LH} (hr : RNG h) : 0 ≤ rd h 188 150 ∧ rd h 188 150 ≤ 10 := rX_quarters hr (by omega) (ix := (0, 150, 150, 0)) (st := 1) (by decide +kernel) (pt 150)
theorem wq_rooms {h : LH} (hI : INV h) {v : Int} (v0 : 0 ≤ v) (v1 : v ≤ 10) : INV (wr h 188 150 v) := wX_quarters hI (by omega) (by unfold sens; omega) (ix := (0, 150, 150, 0)) (lo := 0) (hi := 10) (by decide +kernel) (pt 150) v0 v1 ⟨by omega, by omega⟩
theorem rw_doors {h : LH} (hr : RNG h) : 0 ≤ rd h 188 151 ∧ rd h 188 151 ≤ 14 := rX_quarters hr (by omega) (ix := (0, 151, 151, 0)) (st := 1) (by decide +kernel) (pt 151)
theorem wq_doors {h : LH} (hI : INV h) {v : Int} (v0 : 0 ≤ v) (v1 : v ≤ 14) : INV (wr h 188 151 v) := wX_quarters hI (by omega) (by unfold sens; omega) (ix := (0, 151, 151, 0)) (lo := 0) (hi := 14) (by decide +kernel) (pt 151) v0 v1 ⟨by omega, by omega⟩
theorem rw_people {h : LH} (hr : RNG h) : 0 ≤ rd h 188 152 ∧ rd h 188 152 ≤ 6 := rX_quarters hr (by omega) (ix := (0, 152, 152, 0)) (st := 1) (by decide +kernel) (pt 152)
theorem wq_people {h : LH} (hI : INV h) {v : Int} (v0 : 0 ≤ v) (v1 : v ≤ 6) : INV (wr h 188 152 v) := wX_quarters hI (by omega) (by unfold sens; omega) (ix := (0, 152, 152, 0)) (lo := 0) (hi := 6) (by decide +kernel) (pt 152) v0 v1 ⟨by omega, by omega⟩
theorem rw_let {h : LH} (hr : RNG h) : -1 ≤ rd h 188 153 ∧ rd h 188 153 ≤ 0 := rX_quarters hr (by omega) (ix := (0, 153, 153, 0)) (st := 1) (by decide +kernel) (pt 153)
theorem wq_let {h : LH} (hI : INV h) {v : Int} (v0 : -1 ≤ v) (v1 : v ≤ 0) : INV (wr h 188 153 v) := wX_quarters hI (by omega) (by unfold sens; omega) (ix := (0, 153, 153, 0)) (lo := -1) (hi := 0) (by decide +kernel) (pt 153) v0 v1 ⟨by omega, by omega⟩
end
section
/-! LM, part 42: the reference's reader: numbers, names, doors, people, the law's line -/
/-- steps of the reader that change places of mu alone -/
def PG (mu : Int → Int → Prop) (h h' : LH) : Prop := PB h' ∧ rd h 182 7 ≤ rd h' 182 7 ∧ (rd h' 182 8 = 0 → rd h 182 8 = 0) ∧ ∀ a i, ¬ mu a i → rd h' a i = rd h a i
def muT (a i : Int) : Prop := a = 182 ∧ (i = 7 ∨ i = 8)
def muN (a i : Int) : Prop := (a = 182 ∧ (i = 7 ∨ i = 8 ∨ i = 19)) ∨ a = 192 ∨ a = 194
def muQ (lo hi a i : Int) : Prop := (a = 182 ∧ (i = 7 ∨ i = 8 ∨ i = 19)) ∨ a = 192 ∨ a = 194 ∨ (a = 188 ∧ lo ≤ i ∧ i < hi)
section PGs
variable {mu mu' : Int → Int → Prop} {h h1 h2 : LH}
theorem PG.refl (hp : PB h) : PG mu h h := ⟨hp, Int.le_refl _, id, fun _ _ _ => rfl⟩
theorem PG.trans (a : PG mu h h1) (b : PG mu h1 h2) : PG mu h h2 := ⟨b.1, Int.le_trans a.2.1 b.2.1, fun q => a.2.2.1 (b.2.2.1 q), fun x i hn => (b.2.2.2 x i hn).trans (a.2.2.2 x i hn)⟩
theorem PG.mono (a : PG mu h h1) (hm : ∀ x i, mu x i → mu' x i) : PG mu' h h1 := ⟨a.1, a.2.1, a.2.2.1, fun x i hn => a.2.2.2 x i (fun q => hn (hm x i q))⟩
theorem PG.inv (a : PG mu h h1) : INV h1 := a.1.1
theorem PG.rf (a : PG mu h h1) : RF h1 := RF_of a.1.1.1
theorem PG_at (hp : PB h) {v : Int} (h0 : rd h 182 7 ≤ v) (h1 : v ≤ 1000) : PG muT h (wr h 182 7 v) := by
  have p := PS_at hp h0 h1
  refine ⟨p.1, p.2.1, p.2.2.1, fun a i hn => ?_⟩
  rw [rd_wr, if_neg]
  rintro ⟨rfl, rfl⟩
  exact hn ⟨rfl, Or.inl rfl⟩
theorem PG_fault (hp : PB h) {v : Int} (h0 : 1 ≤ v) (h1 : v ≤ 16005) : PG muT h (wr h 182 8 v) := by
  have p := PS_fault hp h0 h1
  refine ⟨p.1, p.2.1, p.2.2.1, fun a i hn => ?_⟩
  rw [rd_wr, if_neg]
  rintro ⟨rfl, rfl⟩
  exact hn ⟨rfl, Or.inr rfl⟩
theorem muT_N (x i : Int) (q : muT x i) : muN x i := by unfold muT at q; unfold muN; omega
theorem muN_Q {lo hi : Int} (x i : Int) (q : muN x i) : muQ lo hi x i := by unfold muN at q; unfold muQ; omega
theorem PG_q {lo hi i v : Int} (hp : PB h) (hI : INV (wr h 188 i v)) (h0 : lo ≤ i) (h1 : i < hi) : PG (muQ lo hi) h (wr h 188 i v) := by
  have e7 : rd (wr h 188 i v) 182 7 = rd h 182 7 := rdw_ne (by decide)
  have e8 : rd (wr h 188 i v) 182 8 = rd h 182 8 := rdw_ne (by decide)
  have e13 : rd (wr h 188 i v) 182 13 = rd h 182 13 := rdw_ne (by decide)
  refine ⟨⟨hI, trivial⟩, by omega, by rw [e8]; exact id, fun a j hn => ?_⟩
  rw [rd_wr, if_neg]
  rintro ⟨rfl, rfl⟩
  exact hn (by unfold muQ; omega)
end PGs
section C3
variable {xs : Nat → Int} {xl e : Nat} {h : LH} {Q : Option LV → LH → Prop} {v1 v2 v3 : Int}
theorem D_wrong (hp : PB h) (hw : 1 ≤ v1 ∧ v1 ≤ 5) (k : ∀ h', PG muT h h' → rd h' 182 8 ≠ 0 → rd h' 182 7 = rd h 182 7 → Q none h') : Rn xs xl e mm_wrong 0 [some (.inr (.inr 182)), some (.inl v1)] [] h Q := by
  have h1 := rF_at hp.1.1
  have h2 := rA_place hp.1.1 (i := rd h 182 7) (by omega)
  refine B_wrong_0 (RF_of hp.1.1) ⟨fun c => k h (PG.refl hp) c rfl, fun c => ⟨by omega, by omega, by omega, ?_⟩⟩
  refine k _ (PG_fault hp (by omega) (by omega)) ?_ (rdw_nei (by decide))
  rw [rdw_eq]
  omega
theorem D_takeSign (he : 1 ≤ e) (hp : PB h) (k : ∀ h', PG muT h h' → (rd h' 182 8 = 0 → rd h' 182 7 = rd h 182 7 + 1) → Q none h') : Rn xs xl e mm_takeSign 0 [some (.inr (.inr 182)), some (.inl v1)] [] h Q := by
  have hF := RF_of hp.1.1
  refine B_takeSign_0 hF ⟨0, by omega, C_isSign hp.1 (fun q => ?_) (fun q => ?_)⟩
  · have h1 := sg_lt hp.1 q
    refine B_takeSign_5_1 hF ⟨by omega, k _ (PG_at hp (by omega) (by omega)) (fun _ => rdw_eq)⟩
  · refine B_takeSign_5_0 hF ⟨0, by omega, D_wrong hp (by omega) (fun h' p1 p2 p3 => ?_)⟩
    exact B_takeSign_26 p1.rf (k h' p1 (fun q => absurd q p2))
theorem D_hasWord (he : 1 ≤ e) (hp : PB h) (hw : 0 ≤ v1 ∧ v1 < 29) (k : ∀ r h', PG muT h h' → r = 0 ∨ r = 1 → Q (some (.inl r)) h') : Rn xs xl e mm_hasWord 0 [some (.inr (.inr 182)), some (.inl v1), none] [] h Q := by
  have h1 := rF_at hp.1.1
  refine C_hasWord he hp.1 hw (fun q => k 1 _ (PG_at hp (by omega) ?_) (Or.inr rfl)) (fun q => k 0 _ (PG_at hp (by omega) (by omega)) (Or.inl rfl))
  have := wd_lt hp.1 q
  omega
theorem D_takeWord (he : 2 ≤ e) (hp : PB h) (hw : 0 ≤ v1 ∧ v1 < 29) (k : ∀ h', PG muT h h' → Q none h') : Rn xs xl e mm_takeWord 0 [some (.inr (.inr 182)), some (.inl v1)] [] h Q := by
  have hF := RF_of hp.1.1
  have h1 := rF_at hp.1.1
  refine B_takeWord_0 hF ⟨1, by omega, C_hasWord (by omega) hp.1 hw (fun q => ?_) (fun q => ?_)⟩
  · have h1 := wd_lt hp.1 q
    have p := PG_at hp (v := rd h 182 7 + 1) (by omega) (by omega)
    exact B_takeWord_5_1 p.rf (k _ p)
  · have p := PG_at hp (v := rd h 182 7) (by omega) (by omega)
    refine B_takeWord_5_0 p.rf ⟨0, by omega, D_wrong p.1 (by omega) (fun h' p1 p2 p3 => ?_)⟩
    exact B_takeWord_13 p1.rf (k h' (p.trans p1))
theorem lcmp_ge {a b : Int} : 0 ≤ lcmp_ a b ↔ b ≤ a := by unfold lcmp_; omega
theorem lcmp_le {a b : Int} : lcmp_ a b ≤ 0 ↔ a ≤ b := by unfold lcmp_; omega
theorem D_takeNumber (he : 1 ≤ e) (hp : PB h) (b1 : i32 v1) (b2 : i32 v2) (k : ∀ r h', PG muT h h' → (rd h' 182 8 = 0 → v1 ≤ r ∧ r ≤ v2 ∧ rd h' 182 7 = rd h 182 7 + 1) → (rd h' 182 8 ≠ 0 → r = 0) → Q (some (.inl r)) h') : Rn xs xl e mm_takeNumber 0 [some (.inr (.inr 182)), some (.inl v1), some (.inl v2)] [] h Q := by
  have hF := RF_of hp.1.1
  have ha := rF_at hp.1.1
  have hf := rF_fault hp.1.1
  have bad : ∀ h', PG muT h h' → rd h' 182 8 ≠ 0 → Rn xs xl e mm_takeNumber 70 [some (.inr (.inr 182)), some (.inl v1), some (.inl v2)] [] h' Q := by
    intro h' p q
    have := rF_fault p.inv.1
    exact B_takeNumber_70 p.rf ⟨fun c => by omega, fun c => k 0 h' p (fun z => absurd z q) (fun _ => rfl)⟩
  have t28 : rd h 182 8 = 0 → rd h 184 (rd h 182 7) = 2 → Rn xs xl e mm_takeNumber 28 [some (.inr (.inr 182)), some (.inl v1), some (.inl v2)] [] h Q := by
    intro f0 s2
    have h9 := at_lt hp.1 (by rw [s2]; decide)
    refine B_takeNumber_28 hF ⟨fun c => absurd f0 c, fun _ => ⟨by omega, fun c => ⟨0, by omega, D_wrong hp (by omega) (fun h' p1 p2 _ => bad h' p1 p2)⟩, fun c => ⟨by omega, fun c2 => ?_, fun c2 => ⟨0, by omega, D_wrong hp (by omega) (fun h' p1 p2 _ => bad h' p1 p2)⟩⟩⟩⟩
    have g1 := lcmp_ge.mp c
    have g2 := lcmp_le.mp c2
    refine B_takeNumber_70 hF ⟨fun _ => ⟨by omega, by omega, by omega, ?_⟩, fun c => by omega⟩
    rw [show rd h 182 7 + 1 - 1 = rd h 182 7 by omega]
    have g3 : w32 (rd h 186 (rd h 182 7)) = rd h 186 (rd h 182 7) := w32_id ⟨by have := b1.1; omega, by have := b2.2; omega⟩
    rw [g3]
    refine k _ _ (PG_at hp (by omega) (by omega)) (fun _ => ⟨g1, g2, rdw_eq⟩) (fun q => absurd ?_ q)
    rw [rdw_nei (by decide)]
    exact f0
  refine B_takeNumber_0 hF ⟨fun c => ?_, fun c => ⟨by omega, fun c2 => t28 c c2, fun c2 => ⟨0, by omega, D_wrong hp (by omega) (fun h' p1 p2 _ => B_takeNumber_25 p1.rf (bad h' p1 p2))⟩⟩⟩
  exact B_takeNumber_28 hF ⟨fun _ => bad h (PG.refl hp) c, fun q => absurd q c⟩
theorem D_takeAfter (he : 3 ≤ e) (hp : PB h) (hw : 0 ≤ v1 ∧ v1 < 29) (b1 : i32 v2) (b2 : i32 v3) (k : ∀ r h', PG muT h h' → (rd h' 182 8 = 0 → v2 ≤ r ∧ r ≤ v3) → (rd h' 182 8 ≠ 0 → r = 0) → Q (some (.inl r)) h') : Rn xs xl e mm_takeAfter 0 [some (.inr (.inr 182)), some (.inl v1), some (.inl v2), some (.inl v3)] [] h Q := by
  refine B_takeAfter_0 (RF_of hp.1.1) ⟨2, by omega, D_takeWord (by omega) hp hw (fun h1 p1 => ?_)⟩
  refine B_takeAfter_5 p1.rf ⟨1, by omega, D_takeNumber (by omega) p1.1 b1 b2 (fun r h2 p2 q1 q2 => ?_)⟩
  exact B_takeAfter_11 p2.rf (k r h2 (p1.trans p2) (fun z => ⟨(q1 z).1, (q1 z).2.1⟩) q2)
theorem D_isName (he : 2 ≤ e) (hI : INV h) (k1 : rd h 182 8 = 0 → rd h 184 (rd h 182 7) = 1 → Q (some (.inl 1)) h) (k0 : Q (some (.inl 0)) h) : Rn xs xl e mm_isName 0 [some (.inr (.inr 182))] [] h Q := by
  have ha := rF_at hI.1
  refine B_isName_0 (RF_of hI.1) ⟨fun _ => k0, fun c => ⟨by omega, fun _ => k0, fun c2 => ⟨1, by omega, C_wordHere (by omega) hI (by omega) (fun r _ _ _ => ?_)⟩⟩⟩
  exact B_isName_27 (RF_of hI.1) ⟨fun _ => k0, fun _ => k1 c c2⟩
theorem D_find (hI : INV h) (k : ∀ r, -1 ≤ r → r ≤ 25 → Q (some (.inl r)) h) : Rn xs xl e mm_find 0 [some (.inr (.inr 182)), some (.inl v1), none] [] h Q := by
  have hF := RF_of hI.1
  have ha := rF_at hI.1
  have n1 := rF_namesMany hI.1
  have n2 := rF_readMany hI.1
  have loop : ∀ (n : Nat) (j : Int), 20 - j ≤ n → 0 ≤ j → Rn xs xl e mm_find 2 [some (.inr (.inr 182)), some (.inl v1), some (.inl j)] [] h Q := by
    intro n
    induction n with
    | zero =>
      intro j hn h0
      exact B_find_2 hF ⟨fun _ => ⟨fun _ => k _ (by omega) (by omega), fun c => by omega⟩, fun _ => ⟨fun _ => k _ (by omega) (by omega), fun c => by omega⟩⟩
    | succ n ih =>
      intro j hn h0
      by_cases hj : 20 ≤ j
      · exact B_find_2 hF ⟨fun _ => ⟨fun _ => k _ (by omega) (by omega), fun c => by omega⟩, fun _ => ⟨fun _ => k _ (by omega) (by omega), fun c => by omega⟩⟩
      · have x1 := rA_nameOf hI.1 (i := j) (by omega)
        have x2 := rA_readNameOf hI.1 (i := j) (by omega)
        have go := ih (j + 1) (by omega) (by omega)
        refine B_find_2 hF ⟨fun c => ⟨fun _ => k _ (by omega) (by omega), fun c1 => ⟨fun _ => ⟨by omega, by omega, fun _ => ⟨by omega, go⟩, fun _ => ⟨fun _ => ⟨by omega, k _ (by omega) (by omega)⟩, fun _ => ⟨by omega, k _ (by omega) (by omega)⟩⟩⟩, fun _ => ⟨by omega, by omega, fun _ => ⟨by omega, go⟩, fun _ => ⟨fun _ => ⟨by omega, k _ (by omega) (by omega)⟩, fun _ => ⟨by omega, k _ (by omega) (by omega)⟩⟩⟩⟩⟩, fun c => ⟨fun _ => k _ (by omega) (by omega), fun c1 => ⟨fun _ => ⟨by omega, by omega, fun _ => ⟨by omega, go⟩, fun _ => ⟨fun _ => ⟨by omega, k _ (by omega) (by omega)⟩, fun _ => ⟨by omega, k _ (by omega) (by omega)⟩⟩⟩, fun _ => ⟨by omega, by omega, fun _ => ⟨by omega, go⟩, fun _ => ⟨fun _ => ⟨by omega, k _ (by omega) (by omega)⟩, fun _ => ⟨by omega, k _ (by omega) (by omega)⟩⟩⟩⟩⟩⟩
  exact B_find_0 hF (loop 20 0 (by omega) (by omega))
theorem rd_value64 {h : LH} (hI : INV h) {i : Int} (hi : 0 ≤ i ∧ i < 1002) : i64 (rd h 186 i) := by
  have q := hI.1 186 i (vldA (n := 1002) (k := 2) (by decide +kernel) (by decide +kernel) hi)
  unfold hval at q
  rw [lkd_2 (by decide +kernel)] at q
  exact q.2.1
theorem D_readName (he : 3 ≤ e) (hp : PB h) (h9 : rd h 182 7 ≤ 999) (hv : 0 ≤ v1 ∧ v1 ≤ 25) (hm : rd h 182 8 = 0 → rd h 182 19 ≤ 19) (k : ∀ h', PG muN h h' → rd h 182 7 < rd h' 182 7 → (rd h' 182 8 = 0 → rd h' 182 19 = rd h 182 19 + 1) → Q none h') : Rn xs xl e mm_readName 0 [some (.inr (.inr 182)), some (.inl v1)] [] h Q := by
  have ha := rF_at hp.1.1
  have p := PG_at hp (v := rd h 182 7 + 1) (by omega) (by omega)
  have t38 : ∀ h1, PG muT h h1 → rd h 182 7 < rd h1 182 7 → (rd h1 182 8 = 0 → rd h1 184 (rd h1 182 7) = 1) → Rn xs xl e mm_readName 38 [some (.inr (.inr 182)), some (.inl v1)] [] h1 Q := by
    intro h1 p1 lt s1
    have a1 := rF_at p1.inv.1
    have m1 := rF_readMany p1.inv.1
    have e19 : rd h1 182 19 = rd h 182 19 := p1.2.2.2 _ _ (by unfold muT; omega)
    refine B_readName_38 p1.rf ⟨fun c => k h1 (p1.mono muT_N) lt (fun q => absurd q c), fun c => ?_⟩
    have z := hm (p1.2.2.1 c)
    have l9 := at_lt p1.inv (by rw [s1 c]; decide)
    refine ⟨by omega, by omega, by omega, by omega, by omega, ?_⟩
    have i1 : INV (wr h1 192 (rd h1 182 19) (rd h1 186 (rd h1 182 7))) := wA_readNames p1.inv (by omega) (rd_value64 p1.inv (by omega))
    have i2 := wA_readNameOf i1 (i := rd h1 182 19) (v := v1) (by omega) (by omega) (by omega)
    have i3 := wF_readMany i2 (v := rd h1 182 19 + 1) (by omega) (by omega)
    have i4 := wF_at i3 (v := rd h1 182 7 + 1) (by omega) (by omega)
    have f7 : rd (wr (wr (wr (wr h1 192 (rd h1 182 19) (rd h1 186 (rd h1 182 7))) 194 (rd h1 182 19) v1) 182 19 (rd h1 182 19 + 1)) 182 7 (rd h1 182 7 + 1)) 182 7 = rd h1 182 7 + 1 := rdw_eq
    have f8 : rd (wr (wr (wr (wr h1 192 (rd h1 182 19) (rd h1 186 (rd h1 182 7))) 194 (rd h1 182 19) v1) 182 19 (rd h1 182 19 + 1)) 182 7 (rd h1 182 7 + 1)) 182 8 = rd h1 182 8 := (rdw_nei (by decide)).trans ((rdw_nei (by decide)).trans ((rdw_ne (by decide)).trans (rdw_ne (by decide))))
    have f13 : rd (wr (wr (wr (wr h1 192 (rd h1 182 19) (rd h1 186 (rd h1 182 7))) 194 (rd h1 182 19) v1) 182 19 (rd h1 182 19 + 1)) 182 7 (rd h1 182 7 + 1)) 182 13 = rd h1 182 13 := (rdw_nei (by decide)).trans ((rdw_nei (by decide)).trans ((rdw_ne (by decide)).trans (rdw_ne (by decide))))
    have f19 : rd (wr (wr (wr (wr h1 192 (rd h1 182 19) (rd h1 186 (rd h1 182 7))) 194 (rd h1 182 19) v1) 182 19 (rd h1 182 19 + 1)) 182 7 (rd h1 182 7 + 1)) 182 19 = rd h1 182 19 + 1 := (rdw_nei (by decide)).trans rdw_eq
    refine k _ ((p1.mono muT_N).trans ⟨⟨i4, trivial⟩, by omega, by rw [f8]; exact id, fun a i hn => ?_⟩) (by omega) (fun _ => by omega)
    rw [rd_wr, if_neg, rd_wr, if_neg, rd_wr, if_neg, rd_wr, if_neg] <;> (rintro ⟨rfl, rfl⟩; exact hn (by unfold muN; omega))
  have e7 : rd (wr h 182 7 (rd h 182 7 + 1)) 182 7 = rd h 182 7 + 1 := rdw_eq
  refine B_readName_0 (RF_of hp.1.1) ⟨by omega, 2, by omega, D_isName (by omega) p.inv (fun q1 q2 => ?_) ?_⟩
  · refine B_readName_14_1 p.rf ⟨0, by omega, D_find p.inv (fun r r1 r2 => ?_)⟩
    refine B_readName_30 p.rf ⟨fun _ => t38 _ p (by omega) (fun _ => q2), fun _ => ⟨0, by omega, D_wrong p.1 (by omega) (fun h' p1 p2 p3 => t38 h' (p.trans p1) (by omega) (fun z => absurd z p2))⟩⟩
  · refine B_readName_14_0 p.rf ⟨0, by omega, D_wrong p.1 (by omega) (fun h' p1 p2 p3 => ?_)⟩
    exact B_readName_22 p1.rf (t38 h' (p.trans p1) (by omega) (fun z => absurd z p2))
theorem D_takeRoom (he : 2 ≤ e) (hp : PB h) (k : ∀ r h', PG muT h h' → (rd h' 182 8 = 0 → 0 ≤ r ∧ r < rd h 188 150 ∧ rd h' 182 7 = rd h 182 7 + 1) → (0 ≤ r ∧ r ≤ 9) → Q (some (.inl r)) h') : Rn xs xl e mm_takeRoom 0 [some (.inr (.inr 182))] [] h Q := by
  have hq := rw_rooms hp.1.1
  refine B_takeRoom_0 (RF_of hp.1.1) ⟨by omega, 1, by omega, D_takeNumber (by omega) hp (by unfold i32; omega) (by unfold i32; omega) (fun r h1 p1 q1 q2 => ?_)⟩
  refine B_takeRoom_15 p1.rf (k r h1 p1 (fun z => by have := q1 z; omega) ?_)
  by_cases z : rd h1 182 8 = 0
  · have := q1 z; omega
  · have := q2 z; omega
theorem D_takeSort (he : 2 ≤ e) (hp : PB h) (k : ∀ r h', PG muT h h' → (0 ≤ r ∧ r ≤ 3) → Q (some (.inl r)) h') : Rn xs xl e mm_takeSort 0 [some (.inr (.inr 182)), none] [] h Q := by
  have hF := RF_of hp.1.1
  have ha := rF_at hp.1.1
  have bad : ∀ w : Int, w < 0 → Rn xs xl e mm_takeSort 18 [some (.inr (.inr 182)), none] [.inl w] h Q := by
    intro w hw
    refine B_takeSort_18 hF ⟨fun c => by omega, fun _ => ⟨0, by omega, D_wrong hp (by omega) (fun h' p1 p2 _ => ?_)⟩⟩
    exact B_takeSort_28 p1.rf (k 0 h' p1 (by omega))
  refine B_takeSort_0 hF ⟨fun _ => ⟨1, by omega, C_wordHere (by omega) hp.1 (by omega) (fun r r1 r2 r3 => ?_)⟩, fun _ => bad _ (by omega)⟩
  by_cases hr : r < 0
  · exact bad r hr
  · have h9 := wd_lt hp.1 (r3 (by omega))
    exact B_takeSort_18 hF ⟨fun _ => ⟨by omega, k r _ (PG_at hp (by omega) (by omega)) (by omega)⟩, fun c => by omega⟩
end C3
end
section
/-! LM, part 43: the reference's reader: lines of a quarter -/
/-- the quarter that is being read, as long as there is no fault -/
def LN (h : LH) : Prop := (rd h 188 153 = -1 ∧ rd h 182 13 = 0) ∨ (rd h 188 153 = 0 ∧ ∃ n, n + 1 = rd h 182 13 ∧ SegH h 0 n ∧ opR h n = 0)
def NQ (h : LH) : Prop := rd h 182 8 = 0 → 1 ≤ rd h 188 150 ∧ rd h 182 19 = rd h 188 151 + rd h 188 152 ∧ (∀ d, 0 ≤ d → d < rd h 188 151 → rd h 188 (155 + 8 * d) < rd h 188 150 ∧ rd h 188 (156 + 8 * d) < rd h 188 150) ∧ (∀ p, 0 ≤ p → p < rd h 188 152 → rd h 188 (267 + 4 * p) < rd h 188 150) ∧ LN h
def muA (a i : Int) : Prop := (a = 182 ∧ (i = 7 ∨ i = 8 ∨ i = 13 ∨ i = 19)) ∨ a = 192 ∨ a = 194 ∨ (a = 188 ∧ 150 ≤ i) ∨ (a = 189 ∧ 1100 ≤ i) ∨ (a = 190 ∧ 1100 ≤ i)
def PL (h h' : LH) : Prop := PB h' ∧ (rd h' 182 8 = 0 → rd h 182 8 = 0 ∧ rd h 182 7 < rd h' 182 7) ∧ NQ h' ∧ ∀ a i, ¬ muA a i → rd h' a i = rd h a i
theorem LN_same {h h' : LH} (e3 : rd h' 188 153 = rd h 188 153) (e13 : rd h' 182 13 = rd h 182 13) (e1 : ∀ i, rd h' 189 i = rd h 189 i) (e2 : ∀ i, rd h' 190 i = rd h 190 i) (hl : LN h) : LN h' := by
  rcases hl with ⟨q1, q2⟩ | ⟨q1, n, n1, n2, n3⟩
  · exact Or.inl ⟨e3.trans q1, e13.trans q2⟩
  · exact Or.inr ⟨e3.trans q1, n, n1.trans e13.symm, seg_same n2 (fun k _ _ => ⟨e1 _, e2 _⟩), (e1 _).trans n3⟩
theorem NQ_T {h h' : LH} (p : PG muT h h') (hq : NQ h) : NQ h' := by
  intro z
  obtain ⟨q1, q2, q3, q4, q5⟩ := hq (p.2.2.1 z)
  have e : ∀ i, rd h' 188 i = rd h 188 i := fun i => p.2.2.2 _ _ (by unfold muT; omega)
  have e19 : rd h' 182 19 = rd h 182 19 := p.2.2.2 _ _ (by unfold muT; omega)
  have e13 : rd h' 182 13 = rd h 182 13 := p.2.2.2 _ _ (by unfold muT; omega)
  refine ⟨by rw [e]; exact q1, by rw [e19, e, e]; exact q2, fun d d0 d1 => ?_, fun d d0 d1 => ?_, LN_same (e _) e13 (fun i => p.2.2.2 _ _ (by unfold muT; omega)) (fun i => p.2.2.2 _ _ (by unfold muT; omega)) q5⟩
  · rw [e] at d1
    rw [e, e, e]
    exact q3 d d0 d1
  · rw [e] at d1
    rw [e, e]
    exact q4 d d0 d1
theorem NQ_bad {h : LH} (q : rd h 182 8 ≠ 0) : NQ h := fun z => absurd z q
theorem PL_bad {h h' : LH} (p : PG muT h h') (q : rd h' 182 8 ≠ 0) : PL h h' := ⟨p.1, fun z => absurd z q, NQ_bad q, fun a i hn => p.2.2.2 a i (fun z => hn (by unfold muT at z; unfold muA; omega))⟩
-- a door
def DC (b1 b2 : Bool) (h0 : LH) (n : Int) (h : LH) : Prop := PG (muQ (154 + 8 * n) (162 + 8 * n)) h0 h ∧ rd h0 182 7 < rd h 182 7 ∧ (rd h 182 8 = 0 → rd h 182 19 = rd h0 182 19 + 1 ∧ (b1 = true → rd h 188 (155 + 8 * n) < rd h0 188 150) ∧ (b2 = true → rd h 188 (156 + 8 * n) < rd h0 188 150))
section DCs
variable {b1 b2 : Bool} {h0 h h' : LH} {n : Int}
theorem DC.pt (hd : DC b1 b2 h0 n h) (p : PG muT h h') : DC b1 b2 h0 n h' := by
  refine ⟨hd.1.trans (p.mono (fun x i q => muN_Q x i (muT_N x i q))), Int.lt_of_lt_of_le hd.2.1 p.2.1, fun z => ?_⟩
  have q := hd.2.2 (p.2.2.1 z)
  rw [p.2.2.2 182 19 (by unfold muT; omega), p.2.2.2 188 _ (by unfold muT; omega), p.2.2.2 188 _ (by unfold muT; omega)]
  exact q
theorem DC.wx {i v : Int} (hd : DC b1 b2 h0 n h) (hI : INV (wr h 188 i v)) (i0 : 154 + 8 * n ≤ i) (i1 : i < 162 + 8 * n) (n1 : i ≠ 155 + 8 * n) (n2 : i ≠ 156 + 8 * n) : DC b1 b2 h0 n (wr h 188 i v) := by
  refine ⟨hd.1.trans (PG_q hd.1.1 hI i0 i1), ?_, fun z => ?_⟩
  · rw [rdw_ne (by decide)]
    exact hd.2.1
  · rw [rdw_ne (by decide)] at z
    rw [rdw_ne (by decide), rdw_nei n1, rdw_nei n2]
    exact hd.2.2 z
theorem DC.w1 {v : Int} (hd : DC false b2 h0 n h) (hI : INV (wr h 188 (155 + 8 * n) v)) (hv : rd h 182 8 = 0 → v < rd h0 188 150) : DC true b2 h0 n (wr h 188 (155 + 8 * n) v) := by
  refine ⟨hd.1.trans (PG_q hd.1.1 hI (by omega) (by omega)), ?_, fun z => ?_⟩
  · rw [rdw_ne (by decide)]
    exact hd.2.1
  · rw [rdw_ne (by decide)] at z
    rw [rdw_ne (by decide), rdw_eq, rdw_nei (by omega)]
    have := hd.2.2 z
    exact ⟨this.1, fun _ => hv z, this.2.2⟩
theorem DC.w2 {v : Int} (hd : DC b1 false h0 n h) (hI : INV (wr h 188 (156 + 8 * n) v)) (hv : rd h 182 8 = 0 → v < rd h0 188 150) : DC b1 true h0 n (wr h 188 (156 + 8 * n) v) := by
  refine ⟨hd.1.trans (PG_q hd.1.1 hI (by omega) (by omega)), ?_, fun z => ?_⟩
  · rw [rdw_ne (by decide)]
    exact hd.2.1
  · rw [rdw_ne (by decide)] at z
    rw [rdw_ne (by decide), rdw_eq, rdw_nei (by omega)]
    have := hd.2.2 z
    exact ⟨this.1, this.2.1, fun _ => hv z⟩
theorem DC.rooms (hd : DC b1 b2 h0 n h) (hn : 0 ≤ n) : rd h 188 150 = rd h0 188 150 ∧ rd h 188 151 = rd h0 188 151 := ⟨hd.1.2.2.2 _ _ (by unfold muQ; omega), hd.1.2.2.2 _ _ (by unfold muQ; omega)⟩
theorem PL_DC (hd : DC b1 b2 h0 n h) (hn : 0 ≤ n) (q : rd h 182 8 ≠ 0) : PL h0 h := ⟨hd.1.1, fun z => absurd z q, NQ_bad q, fun a i hm => hd.1.2.2.2 a i (fun z => hm (by unfold muQ at z; unfold muA; omega))⟩
/-- the door is one more -/
theorem PL_door (hq : NQ h0) (hd : DC true true h0 n h) (en : rd h0 188 151 = n) (hn : 0 ≤ n) (h13 : n ≤ 13) : PL h0 (wr h 188 151 (rd h 188 151 + 1)) := by
  obtain ⟨r0, r1⟩ := hd.rooms hn
  have hI : INV (wr h 188 151 (rd h 188 151 + 1)) := wq_doors hd.1.inv (by omega) (by omega)
  have x7 : rd (wr h 188 151 (rd h 188 151 + 1)) 182 7 = rd h 182 7 := rdw_ne (by decide)
  have x8 : rd (wr h 188 151 (rd h 188 151 + 1)) 182 8 = rd h 182 8 := rdw_ne (by decide)
  have x13 : rd (wr h 188 151 (rd h 188 151 + 1)) 182 13 = rd h 182 13 := rdw_ne (by decide)
  have hf := hd.1.2.2.2
  refine ⟨⟨hI, trivial⟩, fun z => ⟨hd.1.2.2.1 (by rw [← x8]; exact z), by rw [x7]; exact hd.2.1⟩, fun z => ?_, fun a i hm => ?_⟩
  · rw [x8] at z
    obtain ⟨q1, q2, q3, q4, q5⟩ := hq (hd.1.2.2.1 z)
    obtain ⟨d1, d2, d3⟩ := hd.2.2 z
    have y : ∀ i, i ≠ 151 → rd (wr h 188 151 (rd h 188 151 + 1)) 188 i = rd h 188 i := fun i hi => rdw_nei (fun q => hi q.symm)
    have y1 : rd (wr h 188 151 (rd h 188 151 + 1)) 188 151 = rd h 188 151 + 1 := rdw_eq
    have y19 : rd (wr h 188 151 (rd h 188 151 + 1)) 182 19 = rd h 182 19 := rdw_ne (by decide)
    have p2 : rd h 188 152 = rd h0 188 152 := hf _ _ (by unfold muQ; omega)
    refine ⟨by rw [y 150 (by decide), r0]; exact q1, ?_, fun d dd0 dd1 => ?_, fun p p0 p1 => ?_, ?_⟩
    · rw [y19, y1, y 152 (by decide), r1, p2]
      omega
    · rw [y1] at dd1
      rw [y (155 + 8 * d) (by omega), y (156 + 8 * d) (by omega), y 150 (by decide), r0]
      by_cases hdn : d = n
      · subst hdn
        exact ⟨d2 rfl, d3 rfl⟩
      · rw [hf 188 (155 + 8 * d) (by unfold muQ; omega), hf 188 (156 + 8 * d) (by unfold muQ; omega)]
        exact q3 d dd0 (by omega)
    · rw [y 152 (by decide), p2] at p1
      rw [y (267 + 4 * p) (by omega), y 150 (by decide), r0, hf 188 (267 + 4 * p) (by unfold muQ; omega)]
      exact q4 p p0 p1
    · refine LN_same ?_ ?_ (fun i => ?_) (fun i => ?_) q5
      · rw [y 153 (by decide)]
        exact hf _ _ (by unfold muQ; omega)
      · rw [x13]
        exact hf _ _ (by unfold muQ; omega)
      · exact (rdw_ne (by decide)).trans (hf _ _ (by unfold muQ; omega))
      · exact (rdw_ne (by decide)).trans (hf _ _ (by unfold muQ; omega))
  · rw [rd_wr, if_neg]
    · exact hf a i (fun z => hm (by unfold muQ at z; unfold muA; omega))
    · rintro ⟨rfl, rfl⟩
      exact hm (by unfold muA; omega)
end DCs
section C4
variable {xs : Nat → Int} {xl e : Nat} {h : LH} {Q : Option LV → LH → Prop} {v1 v2 v3 : Int}
theorem D_readDoor (he : 4 ≤ e) (hp : PB h) (hq : NQ h) (h9 : rd h 182 7 ≤ 999) (f0 : rd h 182 8 = 0) (k : ∀ h', PL h h' → Q none h') : Rn xs xl e mm_readDoor 0 [some (.inr (.inr 182)), none, none, none, none] [] h Q := by
  have hF := RF_of hp.1.1
  have n0 := rw_doors hp.1.1
  have r0 := rw_rooms hp.1.1
  obtain ⟨q1, q2, q3, q4, q5⟩ := hq f0
  have pe := rw_people hp.1.1
  refine B_readDoor_0 hF ⟨fun c => ⟨3, by omega, D_readName (by omega) hp h9 (by omega) (fun _ => by omega) (fun h1 p1 lt1 m1 => ?_)⟩, fun c => ⟨0, by omega, D_wrong hp (by omega) (fun h' p1 p2 _ => B_readDoor_20 p1.rf (k h' (PL_bad p1 p2)))⟩⟩
  generalize hn : rd h 188 151 = n at *
  have d1 : DC false false h n h1 := ⟨p1.mono muN_Q, lt1, fun z => ⟨m1 z, fun q => absurd q (by decide), fun q => absurd q (by decide)⟩⟩
  refine B_readDoor_26 p1.rf ⟨by omega, by omega, by omega, 2, by omega, D_takeRoom (by omega) p1.1 (fun r h2 p2 a2 b2 => ?_)⟩
  have d2 := d1.pt p2
  have i3 : INV (wr h2 188 (155 + 8 * n) r) := wq_d1 p2.inv n rfl (by omega) (by omega) (by omega) (by omega)
  have d3 := d2.w1 i3 (fun z => by have := a2 z; have := d1.rooms (by omega); omega)
  rw [show (8 * n + 155 : Int) = 155 + 8 * n by omega, show (8 * n + 154 : Int) = 154 + 8 * n by omega]
  refine B_readDoor_46 p2.rf ⟨by omega, 2, by omega, D_takeWord (by omega) d3.1.1 (by omega) (fun h4 p4 => ?_)⟩
  have d4 := d3.pt p4
  refine B_readDoor_52 p4.rf ⟨by omega, 2, by omega, D_takeRoom (by omega) p4.1 (fun s h5 p5 a5 b5 => ?_)⟩
  have d5 := d4.pt p5
  rw [show (154 + 8 * n + 2 : Int) = 156 + 8 * n by omega]
  have i6 : INV (wr h5 188 (156 + 8 * n) s) := wq_d2 p5.inv n rfl (by omega) (by omega) (by omega) (by omega)
  have d6 := d5.w2 i6 (fun z => by have := a5 z; have := d4.rooms (by omega); omega)
  -- from the kind on
  have t133 : ∀ (h7 : LH) (w : Int), DC true true h n h7 → rd h7 182 8 ≠ 0 → Rn xs xl e mm_readDoor 133 [some (.inr (.inr 182)), some (.inl n), some (.inl (154 + 8 * n)), some (.inl w), none] [] h7 Q := fun h7 w d7 z => B_readDoor_133 d7.1.rf (k h7 (PL_DC d7 (by omega) z))
  have t105 : ∀ h7, DC true true h n h7 → Rn xs xl e mm_readDoor 105 [some (.inr (.inr 182)), some (.inl n), some (.inl (154 + 8 * n)), none, none] [] h7 Q := by
    intro h7 d7
    have bad : ∀ w : Int, w < 0 → Rn xs xl e mm_readDoor 123 [some (.inr (.inr 182)), some (.inl n), some (.inl (154 + 8 * n)), none, none] [.inl w] h7 Q := by
      intro w hw
      refine B_readDoor_123 d7.1.rf ⟨fun c => by omega, fun _ => ⟨0, by omega, D_wrong d7.1.1 (by omega) (fun h8 p8 z8 _ => ?_)⟩⟩
      exact t133 h8 w (d7.pt p8) z8
    refine B_readDoor_105 d7.1.rf ⟨fun _ => ⟨1, by omega, C_wordHere (by omega) d7.1.inv (by omega) (fun w w1 w2 w3 => ?_)⟩, fun _ => bad _ (by omega)⟩
    by_cases hw : w < 0
    · exact bad w hw
    have l9 := wd_lt d7.1.inv (w3 (by omega))
    have p8 := PG_at d7.1.1 (v := rd h7 182 7 + 1) (by omega) (by omega)
    have d8 := d7.pt p8
    have d9 := d8.wx (wq_d0 p8.inv (i := 154 + 8 * n) (v := w) n rfl (by omega) (by omega) (by omega) (by omega)) (by omega) (by omega) (by omega) (by omega)
    refine B_readDoor_123 d7.1.rf ⟨fun _ => ⟨by omega, by omega, 1, by omega, D_hasWord (by omega) d9.1.1 (by omega) (fun o h10 p10 ho => ?_)⟩, fun c => absurd c hw⟩
    have d10 := d9.pt p10
    -- the last parts
    have t297 : ∀ (h11 : LH) (v : Int), DC true true h n h11 → 0 ≤ v → v ≤ 9 → Rn xs xl e mm_readDoor 297 [some (.inr (.inr 182)), some (.inl n), some (.inl (154 + 8 * n)), some (.inl w), some (.inl o)] [.inl v, .inl (154 + 8 * n + 7), .inr (.inr 188)] h11 Q := by
      intro h11 v d11 v0 v1
      have d12 := d11.wx (wq_d7 d11.1.inv (i := 154 + 8 * n + 7) (v := v) n (by omega) (by omega) (by omega) v0 v1) (by omega) (by omega) (by omega) (by omega)
      have rr := d12.rooms (by omega)
      exact B_readDoor_297 d11.1.rf ⟨by omega, by omega, k _ (PL_door hq d12 hn (by omega) (by omega))⟩
    have t268 : ∀ (h11 : LH) (v : Int), DC true true h n h11 → 0 ≤ v → v ≤ 9 → Rn xs xl e mm_readDoor 268 [some (.inr (.inr 182)), some (.inl n), some (.inl (154 + 8 * n)), some (.inl w), some (.inl o)] [.inl v, .inl (154 + 8 * n + 6), .inr (.inr 188)] h11 Q := by
      intro h11 v d11 v0 v1
      have d12 := d11.wx (wq_d6 d11.1.inv (i := 154 + 8 * n + 6) (v := v) n (by omega) (by omega) (by omega) v0 v1) (by omega) (by omega) (by omega) (by omega)
      refine B_readDoor_268 d11.1.rf ⟨by omega, by omega, 1, by omega, D_hasWord (by omega) d12.1.1 (by omega) (fun o2 h13 p13 ho2 => ?_)⟩
      have d13 := d12.pt p13
      refine B_readDoor_283 p13.rf ⟨fun _ => t297 h13 0 d13 (by omega) (by omega), fun _ => ⟨1, by omega, D_takeNumber (by omega) p13.1 (by unfold i32; omega) (by unfold i32; omega) (fun r h14 p14 a14 b14 => ?_)⟩⟩
      have rb : 0 ≤ r ∧ r ≤ 9 := by
        by_cases z : rd h14 182 8 = 0
        · have := a14 z; omega
        · have := b14 z; omega
      exact B_readDoor_293 p14.rf (t297 h14 r (d13.pt p14) rb.1 rb.2)
    have t240 : ∀ (h11 : LH) (v : Int), DC true true h n h11 → -1 ≤ v → v ≤ 3 → Rn xs xl e mm_readDoor 240 [some (.inr (.inr 182)), some (.inl n), some (.inl (154 + 8 * n)), some (.inl w), some (.inl o)] [.inl v, .inl (154 + 8 * n + 5), .inr (.inr 188)] h11 Q := by
      intro h11 v d11 v0 v1
      have d12 := d11.wx (wq_d5 d11.1.inv (i := 154 + 8 * n + 5) (v := v) n (by omega) (by omega) (by omega) v0 v1) (by omega) (by omega) (by omega) (by omega)
      refine B_readDoor_240 d11.1.rf ⟨by omega, by omega, 1, by omega, D_hasWord (by omega) d12.1.1 (by omega) (fun o2 h13 p13 ho2 => ?_)⟩
      have d13 := d12.pt p13
      refine B_readDoor_254 p13.rf ⟨fun _ => t268 h13 1 d13 (by omega) (by omega), fun _ => ⟨1, by omega, D_takeNumber (by omega) p13.1 (by unfold i32; omega) (by unfold i32; omega) (fun r h14 p14 a14 b14 => ?_)⟩⟩
      have rb : 0 ≤ r ∧ r ≤ 9 := by
        by_cases z : rd h14 182 8 = 0
        · have := a14 z; omega
        · have := b14 z; omega
      exact B_readDoor_264 p14.rf (t268 h14 r (d13.pt p14) rb.1 rb.2)
    have t216 : ∀ (h11 : LH) (v : Int), DC true true h n h11 → 0 ≤ v → v ≤ 24 → Rn xs xl e mm_readDoor 216 [some (.inr (.inr 182)), some (.inl n), some (.inl (154 + 8 * n)), some (.inl w), some (.inl o)] [.inl v, .inl (154 + 8 * n + 4), .inr (.inr 188)] h11 Q := by
      intro h11 v d11 v0 v1
      have d12 := d11.wx (wq_d4 d11.1.inv (i := 154 + 8 * n + 4) (v := v) n (by omega) (by omega) (by omega) v0 v1) (by omega) (by omega) (by omega) (by omega)
      refine B_readDoor_216 d11.1.rf ⟨by omega, by omega, 1, by omega, D_hasWord (by omega) d12.1.1 (by omega) (fun o2 h13 p13 ho2 => ?_)⟩
      have d13 := d12.pt p13
      refine B_readDoor_229 p13.rf ⟨fun _ => t240 h13 (-1) d13 (by omega) (by omega), fun _ => ⟨2, by omega, D_takeSort (by omega) p13.1 (fun r h14 p14 a14 => ?_)⟩⟩
      exact B_readDoor_236 p14.rf (t240 h14 r (d13.pt p14) (by omega) (by omega))
    have t181 : ∀ (h11 : LH) (v : Int), DC true true h n h11 → 0 ≤ v → v ≤ 23 → Rn xs xl e mm_readDoor 181 [some (.inr (.inr 182)), some (.inl n), some (.inl (154 + 8 * n)), some (.inl w), some (.inl o)] [.inl v, .inl (154 + 8 * n + 3), .inr (.inr 188)] h11 Q := by
      intro h11 v d11 v0 v1
      have d12 := d11.wx (wq_d3 d11.1.inv (i := 154 + 8 * n + 3) (v := v) n (by omega) (by omega) (by omega) v0 v1) (by omega) (by omega) (by omega) (by omega)
      have ev : rd (wr h11 188 (154 + 8 * n + 3) v) 188 (154 + 8 * n + 3) = v := rdw_eq
      refine B_readDoor_181 d11.1.rf ⟨by omega, by omega, fun _ => t216 _ 24 d12 (by omega) (by omega), fun _ => ⟨by omega, by omega, by omega, 3, by omega, D_takeAfter (by omega) d12.1.1 (by omega) (by unfold i32; omega) (by unfold i32; omega) (fun r h13 p13 a13 b13 => ?_)⟩⟩
      have rb : 0 ≤ r ∧ r ≤ 24 := by
        by_cases z : rd h13 182 8 = 0
        · have := a13 z; omega
        · have := b13 z; omega
      exact B_readDoor_211 p13.rf (t216 h13 r (d12.pt p13) rb.1 rb.2)
    refine B_readDoor_156 p10.rf ⟨by omega, fun _ => t181 h10 0 d10 (by omega) (by omega), fun _ => ⟨1, by omega, D_takeNumber (by omega) p10.1 (by unfold i32; omega) (by unfold i32; omega) (fun r h11 p11 a11 b11 => ?_)⟩⟩
    have rb : 0 ≤ r ∧ r ≤ 23 := by
      by_cases z : rd h11 182 8 = 0
      · have := a11 z; omega
      · have := b11 z; omega
    exact B_readDoor_177 p11.rf (t181 h11 r (d10.pt p11) rb.1 rb.2)
  refine B_readDoor_63 p5.rf ⟨by omega, fun _ => t105 _ d6, fun z => ⟨by omega, by omega, by omega, by omega, fun _ => t105 _ d6, fun _ => ?_⟩⟩
  have b7 := a5 z
  have l4 := d4.2.1
  have at5 := rF_at p5.inv.1
  have at0 := rF_at hp.1.1
  have y7 : rd (wr (wr h5 188 (156 + 8 * n) s) 182 7 (rd h5 182 7 - 1)) 182 7 = rd h5 182 7 - 1 := rdw_eq
  have y13 : rd (wr (wr h5 188 (156 + 8 * n) s) 182 7 (rd h5 182 7 - 1)) 182 13 = rd h4 182 13 := (rdw_nei (by decide)).trans ((rdw_ne (by decide)).trans (p5.2.2.2 _ _ (by unfold muT; omega)))
  have hpb : PB (wr (wr h5 188 (156 + 8 * n) s) 182 7 (rd h5 182 7 - 1)) := ⟨wF_at i6 (by omega) (by omega), trivial⟩
  refine ⟨by omega, 0, by omega, D_wrong hpb (by omega) (fun h8 p8 z8 e8 => ?_)⟩
  refine t105 h8 ⟨⟨p8.1, by omega, fun q => absurd q z8, fun a i hn => ?_⟩, by omega, fun q => absurd q z8⟩
  rw [p8.2.2.2 a i (fun q => hn (by unfold muT at q; unfold muQ; omega)), rd_wr, if_neg]
  · exact d6.1.2.2.2 a i hn
  · rintro ⟨rfl, rfl⟩
    exact hn (by unfold muQ; omega)
end C4
end
section
/-! LM, part 44: the reference's reader: people, the law's line, lines of a day -/
def DP (b1 : Bool) (h0 : LH) (n : Int) (h : LH) : Prop := PG (muQ (266 + 4 * n) (270 + 4 * n)) h0 h ∧ rd h0 182 7 < rd h 182 7 ∧ (rd h 182 8 = 0 → rd h 182 19 = rd h0 182 19 + 1 ∧ (b1 = true → rd h 188 (267 + 4 * n) < rd h0 188 150))
section DPs
variable {b1 : Bool} {h0 h h' : LH} {n : Int}
theorem DP.pt (hd : DP b1 h0 n h) (p : PG muT h h') : DP b1 h0 n h' := by
  refine ⟨hd.1.trans (p.mono (fun x i q => muN_Q x i (muT_N x i q))), Int.lt_of_lt_of_le hd.2.1 p.2.1, fun z => ?_⟩
  have q := hd.2.2 (p.2.2.1 z)
  rw [p.2.2.2 182 19 (by unfold muT; omega), p.2.2.2 188 _ (by unfold muT; omega)]
  exact q
theorem DP.wx {i v : Int} (hd : DP b1 h0 n h) (hI : INV (wr h 188 i v)) (i0 : 266 + 4 * n ≤ i) (i1 : i < 270 + 4 * n) (n1 : i ≠ 267 + 4 * n) : DP b1 h0 n (wr h 188 i v) := by
  refine ⟨hd.1.trans (PG_q hd.1.1 hI i0 i1), ?_, fun z => ?_⟩
  · rw [rdw_ne (by decide)]
    exact hd.2.1
  · rw [rdw_ne (by decide)] at z
    rw [rdw_ne (by decide), rdw_nei n1]
    exact hd.2.2 z
theorem DP.w1 {v : Int} (hd : DP false h0 n h) (hI : INV (wr h 188 (267 + 4 * n) v)) (hv : rd h 182 8 = 0 → v < rd h0 188 150) : DP true h0 n (wr h 188 (267 + 4 * n) v) := by
  refine ⟨hd.1.trans (PG_q hd.1.1 hI (by omega) (by omega)), ?_, fun z => ?_⟩
  · rw [rdw_ne (by decide)]
    exact hd.2.1
  · rw [rdw_ne (by decide)] at z
    rw [rdw_ne (by decide), rdw_eq]
    have := hd.2.2 z
    exact ⟨this.1, fun _ => hv z⟩
theorem DP.rooms (hd : DP b1 h0 n h) (hn : 0 ≤ n) : rd h 188 150 = rd h0 188 150 ∧ rd h 188 152 = rd h0 188 152 := ⟨hd.1.2.2.2 _ _ (by unfold muQ; omega), hd.1.2.2.2 _ _ (by unfold muQ; omega)⟩
theorem PL_person (hq : NQ h0) (hd : DP true h0 n h) (en : rd h0 188 152 = n) (hn : 0 ≤ n) (h5 : n ≤ 5) (hdo : rd h0 188 151 ≤ 14) : PL h0 (wr h 188 152 (rd h 188 152 + 1)) := by
  obtain ⟨r0, r1⟩ := hd.rooms hn
  have hI : INV (wr h 188 152 (rd h 188 152 + 1)) := wq_people hd.1.inv (by omega) (by omega)
  have x7 : rd (wr h 188 152 (rd h 188 152 + 1)) 182 7 = rd h 182 7 := rdw_ne (by decide)
  have x8 : rd (wr h 188 152 (rd h 188 152 + 1)) 182 8 = rd h 182 8 := rdw_ne (by decide)
  have x13 : rd (wr h 188 152 (rd h 188 152 + 1)) 182 13 = rd h 182 13 := rdw_ne (by decide)
  have hf := hd.1.2.2.2
  refine ⟨⟨hI, trivial⟩, fun z => ⟨hd.1.2.2.1 (by rw [← x8]; exact z), by rw [x7]; exact hd.2.1⟩, fun z => ?_, fun a i hm => ?_⟩
  · rw [x8] at z
    obtain ⟨q1, q2, q3, q4, q5⟩ := hq (hd.1.2.2.1 z)
    obtain ⟨d1, d2⟩ := hd.2.2 z
    have y : ∀ i, i ≠ 152 → rd (wr h 188 152 (rd h 188 152 + 1)) 188 i = rd h 188 i := fun i hi => rdw_nei (fun q => hi q.symm)
    have y1 : rd (wr h 188 152 (rd h 188 152 + 1)) 188 152 = rd h 188 152 + 1 := rdw_eq
    have y19 : rd (wr h 188 152 (rd h 188 152 + 1)) 182 19 = rd h 182 19 := rdw_ne (by decide)
    have p2 : rd h 188 151 = rd h0 188 151 := hf _ _ (by unfold muQ; omega)
    refine ⟨by rw [y 150 (by decide), r0]; exact q1, ?_, fun d dd0 dd1 => ?_, fun p p0 p1 => ?_, ?_⟩
    · rw [y19, y1, y 151 (by decide), r1, p2]
      omega
    · rw [y 151 (by decide), p2] at dd1
      rw [y (155 + 8 * d) (by omega), y (156 + 8 * d) (by omega), y 150 (by decide), r0, hf 188 (155 + 8 * d) (by unfold muQ; omega), hf 188 (156 + 8 * d) (by unfold muQ; omega)]
      exact q3 d dd0 dd1
    · rw [y1] at p1
      rw [y (267 + 4 * p) (by omega), y 150 (by decide), r0]
      by_cases hdn : p = n
      · subst hdn
        exact d2 rfl
      · rw [hf 188 (267 + 4 * p) (by unfold muQ; omega)]
        exact q4 p p0 (by omega)
    · refine LN_same ?_ ?_ (fun i => ?_) (fun i => ?_) q5
      · rw [y 153 (by decide)]
        exact hf _ _ (by unfold muQ; omega)
      · rw [x13]
        exact hf _ _ (by unfold muQ; omega)
      · exact (rdw_ne (by decide)).trans (hf _ _ (by unfold muQ; omega))
      · exact (rdw_ne (by decide)).trans (hf _ _ (by unfold muQ; omega))
  · rw [rd_wr, if_neg]
    · exact hf a i (fun z => hm (by unfold muQ at z; unfold muA; omega))
    · rintro ⟨rfl, rfl⟩
      exact hm (by unfold muA; omega)
end DPs
section C5
variable {xs : Nat → Int} {xl e : Nat} {h : LH} {Q : Option LV → LH → Prop} {v1 v2 v3 : Int}
theorem D_readPerson (he : 4 ≤ e) (hp : PB h) (hq : NQ h) (h9 : rd h 182 7 ≤ 999) (f0 : rd h 182 8 = 0) (k : ∀ h', PL h h' → Q none h') : Rn xs xl e mm_readPerson 0 [some (.inr (.inr 182)), none, none] [] h Q := by
  have hF := RF_of hp.1.1
  have n0 := rw_people hp.1.1
  have r0 := rw_rooms hp.1.1
  have do0 := rw_doors hp.1.1
  obtain ⟨q1, q2, q3, q4, q5⟩ := hq f0
  refine B_readPerson_0 hF ⟨fun c => ⟨by omega, 3, by omega, D_readName (by omega) hp h9 (by omega) (fun _ => by omega) (fun h1 p1 lt1 m1 => ?_)⟩, fun c => ⟨0, by omega, D_wrong hp (by omega) (fun h' p1 p2 _ => B_readPerson_20 p1.rf (k h' (PL_bad p1 p2)))⟩⟩
  generalize hn : rd h 188 152 = n at *
  have d1 : DP false h n h1 := ⟨p1.mono muN_Q, lt1, fun z => ⟨m1 z, fun q => absurd q (by decide)⟩⟩
  refine B_readPerson_29 p1.rf ⟨by omega, by omega, 2, by omega, D_takeSort (by omega) p1.1 (fun r h2 p2 b2 => ?_)⟩
  rw [show (4 * n + 266 : Int) = 266 + 4 * n by omega]
  have d2 := (d1.pt p2).wx (wq_p0 p2.inv (i := 266 + 4 * n) (v := r) n rfl (by omega) (by omega) (by omega) (by omega)) (by omega) (by omega) (by omega)
  refine B_readPerson_46 p2.rf ⟨by omega, 2, by omega, D_takeWord (by omega) d2.1.1 (by omega) (fun h3 p3 => ?_)⟩
  have d3 := d2.pt p3
  refine B_readPerson_53 p3.rf ⟨by omega, 2, by omega, D_takeRoom (by omega) p3.1 (fun r h4 p4 a4 b4 => ?_)⟩
  rw [show (266 + 4 * n + 1 : Int) = 267 + 4 * n by omega]
  have d4 := (d3.pt p4).w1 (wq_p1 p4.inv (i := 267 + 4 * n) (v := r) n rfl (by omega) (by omega) (by omega) (by omega)) (fun z => by have := a4 z; have := d3.rooms (by omega); omega)
  refine B_readPerson_64 p4.rf ⟨by omega, 2, by omega, D_takeWord (by omega) d4.1.1 (by omega) (fun h5 p5 => ?_)⟩
  have d5 := d4.pt p5
  refine B_readPerson_71 p5.rf ⟨by omega, 2, by omega, D_takeRoom (by omega) p5.1 (fun r h6 p6 a6 b6 => ?_)⟩
  have d6 := (d5.pt p6).wx (wq_p2 p6.inv (i := 266 + 4 * n + 2) (v := r) n (by omega) (by omega) (by omega) (by omega) (by omega)) (by omega) (by omega) (by omega)
  refine B_readPerson_82 p6.rf ⟨by omega, by omega, 3, by omega, D_takeAfter (by omega) d6.1.1 (by omega) (by unfold i32; omega) (by unfold i32; omega) (fun r h7 p7 a7 b7 => ?_)⟩
  have rb : 0 ≤ r ∧ r ≤ 24 := by
    by_cases z : rd h7 182 8 = 0
    · have := a7 z; omega
    · have := b7 z; omega
  have d7 := (d6.pt p7).wx (wq_p3 p7.inv (i := 266 + 4 * n + 3) (v := r) n (by omega) (by omega) (by omega) (by omega) (by omega)) (by omega) (by omega) (by omega)
  have rr := d7.rooms (by omega)
  exact B_readPerson_99 p7.rf ⟨by omega, by omega, k _ (PL_person hq d7 hn (by omega) (by omega) (by omega))⟩
theorem D_readLet (he : 39 ≤ e) (hp : PB h) (hq : NQ h) (f0 : rd h 182 8 = 0) (k : ∀ h', PL h h' → Q none h') : Rn xs xl e mm_readLet 0 [some (.inr (.inr 182))] [] h Q := by
  have hF := RF_of hp.1.1
  have ha := rF_at hp.1.1
  have bad : ∀ h', PG muT h h' → rd h' 182 8 ≠ 0 → Rn xs xl e mm_readLet 33 [some (.inr (.inr 182))] [] h' Q := by
    intro h' p z
    have := rF_fault p.inv.1
    exact B_readLet_33 p.rf ⟨fun c => by omega, fun _ => k h' (PL_bad p z)⟩
  obtain ⟨q1, q2, q3, q4, q5⟩ := hq f0
  refine B_readLet_0 hF ⟨0, by omega, C_isWord hp.1 (by omega) (fun q => ?_) (fun q => ?_)⟩
  · have l9 := wd_lt hp.1 q
    refine B_readLet_6_1 hF ⟨fun c => ?_, fun c => ⟨0, by omega, D_wrong hp (by omega) (fun h' p1 p2 _ => bad h' p1 p2)⟩⟩
    have c0 : rd h 182 13 = 0 := by
      rcases q5 with z | z
      · exact z.2
      · omega
    have p1 := PS_at hp (v := rd h 182 7 + 1) (by omega) (by omega)
    have i2 : INV (wr (wr h 182 7 (rd h 182 7 + 1)) 188 153 (rd h 182 13)) := wq_let p1.inv (by omega) (by omega)
    have x7 : rd (wr (wr h 182 7 (rd h 182 7 + 1)) 188 153 (rd h 182 13)) 182 7 = rd h 182 7 + 1 := (rdw_ne (by decide)).trans rdw_eq
    have x8 : rd (wr (wr h 182 7 (rd h 182 7 + 1)) 188 153 (rd h 182 13)) 182 8 = rd h 182 8 := (rdw_ne (by decide)).trans (rdw_nei (by decide))
    have x13 : rd (wr (wr h 182 7 (rd h 182 7 + 1)) 188 153 (rd h 182 13)) 182 13 = rd h 182 13 := (rdw_ne (by decide)).trans (rdw_nei (by decide))
    have x19 : rd (wr (wr h 182 7 (rd h 182 7 + 1)) 188 153 (rd h 182 13)) 182 19 = rd h 182 19 := (rdw_ne (by decide)).trans (rdw_nei (by decide))
    have xq : ∀ i, i ≠ 153 → rd (wr (wr h 182 7 (rd h 182 7 + 1)) 188 153 (rd h 182 13)) 188 i = rd h 188 i := fun i hi => (rdw_nei (fun q => hi q.symm)).trans (rdw_ne (by decide))
    have x3 : rd (wr (wr h 182 7 (rd h 182 7 + 1)) 188 153 (rd h 182 13)) 188 153 = 0 := rdw_eq.trans c0
    have xo : ∀ a i, ¬ muA a i → rd (wr (wr h 182 7 (rd h 182 7 + 1)) 188 153 (rd h 182 13)) a i = rd h a i := by
      intro a i hn
      rw [rd_wr, if_neg, rd_wr, if_neg] <;> (rintro ⟨rfl, rfl⟩; exact hn (by unfold muA; omega))
    have pb2 : PB (wr (wr h 182 7 (rd h 182 7 + 1)) 188 153 (rd h 182 13)) := ⟨i2, trivial⟩
    refine B_readLet_33 hF ⟨fun _ => ⟨by omega, 38, by omega, C_all0 38 _ _ (by omega) pb2 (by omega) (fun h3 g3 => ?_)⟩, fun c => by omega⟩
    refine B_readLet_68 g3.1.rf ⟨0, by omega, C_emit g3.1.inv ?_⟩
    have y7 := emH_7 h3 0 0
    have y8 := emH_8 h3 0 0
    have y13 := emH_13 h3 0 0
    obtain ⟨g1, g2, g4, g5, g6, g7⟩ := g3.1
    generalize hh1 : wr (wr h 182 7 (rd h 182 7 + 1)) 188 153 (rd h 182 13) = h1 at *
    have c3 := rF_codes g1.1.1
    have a3 := rF_at g1.1.1
    have hI : INV (emH h3 0 0) := wF_codes (INV_arg (INV_op g1.1 (by omega) (by omega) (by omega)) (by omega) (by omega) (by omega)) (by omega) (by omega)
    have eo : ∀ a i, ¬ muA a i → rd (emH h3 0 0) a i = rd h3 a i := by
      intro a i hn
      unfold emH
      rw [rd_wr, if_neg, rd_wr, if_neg, rd_wr, if_neg] <;> (rintro ⟨rfl, rfl⟩; exact hn (by unfold muA; omega))
    have eq : ∀ i, rd (emH h3 0 0) 188 i = rd h1 188 i := fun i => ((rdw_ne (by decide)).trans ((rdw_ne (by decide)).trans (rdw_ne (by decide)))).trans (g7 188 i (by unfold pmut; omega))
    have e19 : rd (emH h3 0 0) 182 19 = rd h1 182 19 := ((rdw_nei (by decide)).trans ((rdw_ne (by decide)).trans (rdw_ne (by decide)))).trans (g7 182 19 (by unfold pmut; omega))
    refine B_readLet_74 (RF_of hI.1) (k _ ⟨⟨hI, trivial⟩, fun z => ⟨f0, by omega⟩, fun z => ?_, fun a i hn => ?_⟩)
    · rw [y8] at z
      refine ⟨by rw [eq, xq 150 (by decide)]; exact q1, by rw [e19, x19, eq, eq, xq 151 (by decide), xq 152 (by decide)]; exact q2, fun d d0 d1 => ?_, fun p p0 p1 => ?_, Or.inr ⟨by rw [eq]; exact x3, rd h3 182 13, by omega, ?_, emH_op h3 0 0⟩⟩
      · rw [eq, xq 151 (by decide)] at d1
        rw [eq, eq, eq, xq (155 + 8 * d) (by omega), xq (156 + 8 * d) (by omega), xq 150 (by decide)]
        exact q3 d d0 d1
      · rw [eq, xq 152 (by decide)] at p1
        rw [eq, eq, xq (267 + 4 * p) (by omega), xq 150 (by decide)]
        exact q4 p p0 p1
      · have s := g3.2 z
        rw [x13, c0] at s
        exact SegH_emH s (by omega) 0 0
    · rw [eo a i hn, g7 a i (fun z => hn (by unfold pmut at z; unfold muA; omega)), xo a i hn]
  · refine B_readLet_6_0 hF ⟨0, by omega, D_wrong hp (by omega) (fun h' p1 p2 _ => ?_)⟩
    exact B_readLet_14 p1.rf (bad h' p1 p2)
-- lines of a day
theorem D_takeTold (he : 3 ≤ e) (hp : PB h) (b1 : 0 ≤ v1 ∧ v1 ≤ 100) (b2 : 1 ≤ v2 ∧ v2 ≤ 100) (k : ∀ r h', PG muT h h' → (rd h' 182 8 = 0 → 0 ≤ r ∧ r < v2 ∧ rd h 182 7 < rd h' 182 7) → i32 r → Q (some (.inl r)) h') : Rn xs xl e mm_takeTold 0 [some (.inr (.inr 182)), some (.inl v1), some (.inl v2), none] [] h Q := by
  have hF := RF_of hp.1.1
  have t61 : ∀ (r : Int) h1, PG muT h h1 → (rd h1 182 8 = 0 → 0 ≤ r ∧ r < v2 ∧ rd h1 182 7 ≤ 999) → i32 r → Rn xs xl e mm_takeTold 61 [some (.inr (.inr 182)), some (.inl v1), some (.inl v2), some (.inl r)] [] h1 Q := by
    intro r h1 p1 c1 r32
    have a1 := rF_at p1.inv.1
    have f1 := rF_fault p1.inv.1
    have p12 := p1.2.1
    refine B_takeTold_61 p1.rf ⟨fun c => ?_, fun c => ?_⟩
    · have c1 := c1 (by omega)
      have p2 := PG_at p1.1 (v := rd h1 182 7 + 1) (by omega) (by omega)
      have e7 : rd (wr h1 182 7 (rd h1 182 7 + 1)) 182 7 = rd h1 182 7 + 1 := rdw_eq
      exact ⟨by omega, k r _ (p1.trans p2) (fun _ => ⟨c1.1, c1.2.1, by omega⟩) r32⟩
    · have p2 := PG_at p1.1 (v := rd h1 182 7) (by omega) (by omega)
      have e8 : rd (wr h1 182 7 (rd h1 182 7)) 182 8 = rd h1 182 8 := rdw_nei (by decide)
      exact ⟨by omega, k r _ (p1.trans p2) (fun z => by omega) r32⟩
  have t19 : ∀ h1, PG muT h h1 → (rd h1 182 8 = 0 → rd h1 182 7 ≤ 999) → Rn xs xl e mm_takeTold 19 [some (.inr (.inr 182)), some (.inl v1), some (.inl v2), none] [] h1 Q := by
    intro h1 p1 s1
    have a1 := rF_at p1.inv.1
    have f1 := rF_fault p1.inv.1
    have p2 := PG_at p1.1 (v := rd h1 182 7) (by omega) (by omega)
    have e8 : rd (wr h1 182 7 (rd h1 182 7)) 182 8 = rd h1 182 8 := rdw_nei (by decide)
    refine B_takeTold_19 p1.rf (by omega) ⟨fun c => ⟨0, by omega, D_find p1.inv (fun r r0 r1 => ?_)⟩, fun c => ⟨fun _ => ⟨fun _ => by omega, fun _ => ⟨by omega, k _ _ (p1.trans p2) (fun z => by omega) (by unfold i32; omega)⟩⟩, fun z => by omega⟩⟩
    have l9 := s1 (by omega)
    refine B_takeTold_35 p1.rf (by omega) ⟨by omega, fun z => by omega, fun z => ⟨by omega, fun c2 => ⟨0, by omega, D_wrong p1.1 (by omega) (fun h' p3 z3 _ => t61 _ h' (p1.trans p3) (fun z => absurd z z3) (by unfold i32; omega))⟩, fun c2 => ⟨fun c3 => ⟨0, by omega, D_wrong p1.1 (by omega) (fun h' p3 z3 _ => t61 _ h' (p1.trans p3) (fun z => absurd z z3) (by unfold i32; omega))⟩, fun c3 => t61 _ h1 p1 (fun _ => ⟨by omega, by omega, l9⟩) (by unfold i32; omega)⟩⟩⟩
  refine B_takeTold_0 hF ⟨fun c => t19 h (PG.refl hp) (fun z => absurd z c), fun c => ⟨2, by omega, D_isName (by omega) hp.1 (fun z1 z2 => ?_) ?_⟩⟩
  · exact B_takeTold_11_1 hF (t19 h (PG.refl hp) (fun _ => at_lt hp.1 (by rw [z2]; decide)))
  · refine B_takeTold_11_0 hF ⟨0, by omega, D_wrong hp (by omega) (fun h' p3 z3 _ => ?_)⟩
    exact t19 h' p3 (fun z => absurd z z3)
end C5
end
