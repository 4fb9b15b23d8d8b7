section
/-! found and crowd, part f0: truth as a number -/
/-- 1 if so -/
noncomputable def bo (P : Prop) : Int := @ite Int P (Classical.propDecidable _) 1 0
theorem bo_t {P : Prop} (h : P) : bo P = 1 := by unfold bo; rw [if_pos h]
theorem bo_f {P : Prop} (h : ¬ P) : bo P = 0 := by unfold bo; rw [if_neg h]
theorem bo_iff {P R : Prop} (h : P ↔ R) : bo P = bo R := by
  by_cases z : P
  · rw [bo_t z, bo_t (h.mp z)]
  · rw [bo_f z, bo_f (fun y => z (h.mpr y))]
theorem bo_01 (P : Prop) : bo P = 0 ∨ bo P = 1 := by
  by_cases z : P
  · exact Or.inr (bo_t z)
  · exact Or.inl (bo_f z)
end
section
/-! found, part f1: sums over sets of doors -/
/-- the sum of f over all sets out of L, put to b -/
noncomputable def LSq (f : Int → Int) : List Int → Int → Int
  | [], b => f b
  | d :: L, b => LSq f L b + LSq f L (zor b (zshl 1 d))
/-- some set out of L, put to b -/
def LEx (P : Int → Prop) : List Int → Int → Prop
  | [], b => P b
  | d :: L, b => LEx P L b ∨ LEx P L (zor b (zshl 1 d))
/-- all sets out of L, put to b -/
def LAx (P : Int → Prop) : List Int → Int → Prop
  | [], b => P b
  | d :: L, b => LAx P L b ∧ LAx P L (zor b (zshl 1 d))
/-- the set out of L that Y says, put to b -/
noncomputable def leafQ (Y : Int) : List Int → Int → Int
  | [], b => b
  | d :: L, b => @ite Int (bitZ Y d) (Classical.propDecidable _) (leafQ Y L (zor b (zshl 1 d))) (leafQ Y L b)
/-- the sum of f below n -/
noncomputable def SPs (f : Int → Int) : Nat → Int
  | 0 => 0
  | n + 1 => SPs f n + f (n : Int)
/-- the doors k - 1 .. 0 -/
def dwn : Nat → List Int
  | 0 => []
  | k + 1 => (k : Int) :: dwn k
/-- k times doubled -/
def mulp : Nat → Nat → Nat
  | 0, t => t
  | k + 1, t => mulp k (t + t)
def dbl : Nat → Int → Int
  | 0, x => x
  | k + 1, x => 2 * dbl k x
/-- the doors of L of the class 2 -/
def sel (c : Int → Int) : List Int → List Int
  | [] => []
  | d :: L => if c d = 2 then d :: sel c L else sel c L
/-- how many of L are of the class 1 -/
def cn1 (c : Int → Int) : List Int → Nat
  | [] => 0
  | d :: L => if c d = 1 then cn1 c L + 1 else cn1 c L
/-- the doors below n of the class 2, upwards -/
def upQ (c : Int → Int) : Nat → List Int
  | 0 => []
  | n + 1 => if c (n : Int) = 2 then upQ c n ++ [(n : Int)] else upQ c n
def azQ (k r : Nat) : Bool := (List.range r).all (fun a => (List.range 32).all (fun b => decide (16384 < mulp k (64 * a + 2 * b + 2) ∨ zor ((mulp k (64 * a + 2 * b) : Nat) : Int) (zshl 1 (k : Int)) = ((mulp k (64 * a + 2 * b + 1) : Nat) : Int))))
theorem az_0 : azQ 0 256 = true ∧ 16384 < mulp 0 (64 * 256 + 2) := by decide +kernel
theorem az_1 : azQ 1 128 = true ∧ 16384 < mulp 1 (64 * 128 + 2) := by decide +kernel
theorem az_2 : azQ 2 64 = true ∧ 16384 < mulp 2 (64 * 64 + 2) := by decide +kernel
theorem az_3 : azQ 3 32 = true ∧ 16384 < mulp 3 (64 * 32 + 2) := by decide +kernel
theorem az_4 : azQ 4 16 = true ∧ 16384 < mulp 4 (64 * 16 + 2) := by decide +kernel
theorem az_5 : azQ 5 8 = true ∧ 16384 < mulp 5 (64 * 8 + 2) := by decide +kernel
theorem az_6 : azQ 6 4 = true ∧ 16384 < mulp 6 (64 * 4 + 2) := by decide +kernel
theorem az_7 : azQ 7 2 = true ∧ 16384 < mulp 7 (64 * 2 + 2) := by decide +kernel
theorem az_8 : azQ 8 1 = true ∧ 16384 < mulp 8 (64 * 1 + 2) := by decide +kernel
theorem az_9 : azQ 9 1 = true ∧ 16384 < mulp 9 (64 * 1 + 2) := by decide +kernel
theorem az_10 : azQ 10 1 = true ∧ 16384 < mulp 10 (64 * 1 + 2) := by decide +kernel
theorem az_11 : azQ 11 1 = true ∧ 16384 < mulp 11 (64 * 1 + 2) := by decide +kernel
theorem az_12 : azQ 12 1 = true ∧ 16384 < mulp 12 (64 * 1 + 2) := by decide +kernel
theorem az_13 : azQ 13 1 = true ∧ 16384 < mulp 13 (64 * 1 + 2) := by decide +kernel
theorem az_all : ∀ j : Nat, j < 14 → ∃ r : Nat, azQ j r = true ∧ 16384 < mulp j (64 * r + 2)
  | 0, _ => ⟨_, az_0⟩
  | 1, _ => ⟨_, az_1⟩
  | 2, _ => ⟨_, az_2⟩
  | 3, _ => ⟨_, az_3⟩
  | 4, _ => ⟨_, az_4⟩
  | 5, _ => ⟨_, az_5⟩
  | 6, _ => ⟨_, az_6⟩
  | 7, _ => ⟨_, az_7⟩
  | 8, _ => ⟨_, az_8⟩
  | 9, _ => ⟨_, az_9⟩
  | 10, _ => ⟨_, az_10⟩
  | 11, _ => ⟨_, az_11⟩
  | 12, _ => ⟨_, az_12⟩
  | 13, _ => ⟨_, az_13⟩
  | n + 14, h => absurd h (by omega)
def zsB (k r : Nat) : Bool := (List.range r).all (fun a => (List.range 128).all (fun b => decide (16384 < mulp k (128 * a + b) ∨ zshl ((128 * a + b : Nat) : Int) (k : Int) = ((mulp k (128 * a + b) : Nat) : Int))))
theorem zs_0 : zsB 0 129 = true ∧ 16384 < mulp 0 (128 * 129) := by decide +kernel
theorem zs_1 : zsB 1 65 = true ∧ 16384 < mulp 1 (128 * 65) := by decide +kernel
theorem zs_2 : zsB 2 33 = true ∧ 16384 < mulp 2 (128 * 33) := by decide +kernel
theorem zs_3 : zsB 3 17 = true ∧ 16384 < mulp 3 (128 * 17) := by decide +kernel
theorem zs_4 : zsB 4 9 = true ∧ 16384 < mulp 4 (128 * 9) := by decide +kernel
theorem zs_5 : zsB 5 5 = true ∧ 16384 < mulp 5 (128 * 5) := by decide +kernel
theorem zs_6 : zsB 6 3 = true ∧ 16384 < mulp 6 (128 * 3) := by decide +kernel
theorem zs_7 : zsB 7 2 = true ∧ 16384 < mulp 7 (128 * 2) := by decide +kernel
theorem zs_8 : zsB 8 1 = true ∧ 16384 < mulp 8 (128 * 1) := by decide +kernel
theorem zs_9 : zsB 9 1 = true ∧ 16384 < mulp 9 (128 * 1) := by decide +kernel
theorem zs_10 : zsB 10 1 = true ∧ 16384 < mulp 10 (128 * 1) := by decide +kernel
theorem zs_11 : zsB 11 1 = true ∧ 16384 < mulp 11 (128 * 1) := by decide +kernel
theorem zs_12 : zsB 12 1 = true ∧ 16384 < mulp 12 (128 * 1) := by decide +kernel
theorem zs_13 : zsB 13 1 = true ∧ 16384 < mulp 13 (128 * 1) := by decide +kernel
theorem zs_14 : zsB 14 1 = true ∧ 16384 < mulp 14 (128 * 1) := by decide +kernel
theorem zs_all : ∀ j : Nat, j < 15 → ∃ r : Nat, zsB j r = true ∧ 16384 < mulp j (128 * r)
  | 0, _ => ⟨_, zs_0⟩
  | 1, _ => ⟨_, zs_1⟩
  | 2, _ => ⟨_, zs_2⟩
  | 3, _ => ⟨_, zs_3⟩
  | 4, _ => ⟨_, zs_4⟩
  | 5, _ => ⟨_, zs_5⟩
  | 6, _ => ⟨_, zs_6⟩
  | 7, _ => ⟨_, zs_7⟩
  | 8, _ => ⟨_, zs_8⟩
  | 9, _ => ⟨_, zs_9⟩
  | 10, _ => ⟨_, zs_10⟩
  | 11, _ => ⟨_, zs_11⟩
  | 12, _ => ⟨_, zs_12⟩
  | 13, _ => ⟨_, zs_13⟩
  | 14, _ => ⟨_, zs_14⟩
  | n + 15, h => absurd h (by omega)
section F1
variable {f g : Int → Int} {P R : Int → Prop} {L M : List Int} {a b c d m r x y z Y : Int} {k n s t : Nat} {cl : Int → Int}
theorem cn1_c : cn1 cl (d :: L) = if cl d = 1 then cn1 cl L + 1 else cn1 cl L := rfl
theorem sel_c : sel cl (d :: L) = if cl d = 2 then d :: sel cl L else sel cl L := rfl
theorem dwn_s : dwn (n + 1) = (n : Int) :: dwn n := rfl
theorem upA_s : upQ cl (n + 1) = if cl (n : Int) = 2 then upQ cl n ++ [(n : Int)] else upQ cl n := rfl
theorem leaf_c : leafQ Y (d :: L) b = @ite Int (bitZ Y d) (Classical.propDecidable _) (leafQ Y L (zor b (zshl 1 d))) (leafQ Y L b) := rfl
theorem zor_cm (hx : 0 ≤ x ∧ x < 32) (hy : 0 ≤ y ∧ y < 32) : zor (zor b (zshl 1 x)) (zshl 1 y) = zor (zor b (zshl 1 y)) (zshl 1 x) := by
  refine bit_ext (zor_i _ _) (zor_i _ _) (fun k k0 k1 => ?_)
  rw [bit_or k0 k1, bit_or k0 k1, bit_or k0 k1, bit_or k0 k1]
  exact ⟨fun h => h.elim (fun h => h.elim (fun h => Or.inl (Or.inl h)) Or.inr) (fun h => Or.inl (Or.inr h)), fun h => h.elim (fun h => h.elim (fun h => Or.inl (Or.inl h)) Or.inr) (fun h => Or.inl (Or.inr h))⟩
theorem LS_app : ∀ (L : List Int) (b : Int), LSq f (L ++ M) b = LSq (LSq f M) L b
  | [], _ => rfl
  | d :: L, b => by
    show LSq f (L ++ M) b + LSq f (L ++ M) _ = LSq (LSq f M) L b + LSq (LSq f M) L _
    rw [LS_app L b, LS_app L _]
theorem LS_ext : ∀ (L : List Int) (b : Int), i32 b → (∀ x, i32 x → f x = g x) → LSq f L b = LSq g L b
  | [], b, hb, h => h b hb
  | d :: L, b, hb, h => by
    show LSq f L b + LSq f L _ = LSq g L b + LSq g L _
    rw [LS_ext L b hb h, LS_ext L _ (zor_i _ _) h]
theorem LS_nn (h : ∀ x, 0 ≤ f x) : ∀ (L : List Int) (b : Int), 0 ≤ LSq f L b
  | [], b => h b
  | d :: L, b => by
    have h1 := LS_nn h L b
    have h2 := LS_nn h L (zor b (zshl 1 d))
    show 0 ≤ LSq f L b + LSq f L _
    omega
theorem bo_nn : ∀ x, 0 ≤ (fun x => bo (P x)) x := fun x => by
  show 0 ≤ bo (P x)
  rcases bo_01 (P x) with z | z <;> omega
/-- some set is so if the sum isn't nothing -/
theorem LE_LS : ∀ (L : List Int) (b : Int), LEx P L b ↔ 0 < LSq (fun x => bo (P x)) L b
  | [], b => by
    show P b ↔ 0 < bo (P b)
    by_cases z : P b
    · rw [bo_t z]
      exact ⟨fun _ => by decide, fun _ => z⟩
    · rw [bo_f z]
      exact ⟨fun y => absurd y z, fun y => absurd y (by decide)⟩
  | d :: L, b => by
    have h1 := LS_nn (f := fun x => bo (P x)) bo_nn L b
    have h2 := LS_nn (f := fun x => bo (P x)) bo_nn L (zor b (zshl 1 d))
    show (LEx P L b ∨ LEx P L _) ↔ 0 < LSq (fun x => bo (P x)) L b + LSq (fun x => bo (P x)) L _
    rw [LE_LS L b, LE_LS L _]
    omega
/-- one door moves behind the others -/
theorem LS_cm (hd : 0 ≤ d ∧ d < 32) : ∀ (L : List Int) (b : Int), (∀ e ∈ L, 0 ≤ e ∧ e < 32) → LSq f L (zor b (zshl 1 d)) = LSq (fun x => f (zor x (zshl 1 d))) L b
  | [], _, _ => rfl
  | e :: L, b, h => by
    show LSq f L (zor b (zshl 1 d)) + LSq f L (zor (zor b (zshl 1 d)) (zshl 1 e)) = LSq (fun x => f (zor x (zshl 1 d))) L b + LSq (fun x => f (zor x (zshl 1 d))) L (zor b (zshl 1 e))
    rw [zor_cm hd (h e List.mem_cons_self), LS_cm hd L b (fun x hx => h x (List.mem_cons_of_mem _ hx)), LS_cm hd L (zor b (zshl 1 e)) (fun x hx => h x (List.mem_cons_of_mem _ hx))]
/-- a door that makes no difference doubles the sum -/
theorem LS_idle (hb : i32 b) (hd : 0 ≤ d ∧ d < 32) (hL : ∀ e ∈ L, 0 ≤ e ∧ e < 32) (hf : ∀ x, i32 x → f (zor x (zshl 1 d)) = f x) : LSq f (d :: L) b = 2 * LSq f L b := by
  show LSq f L b + LSq f L (zor b (zshl 1 d)) = _
  rw [LS_cm hd L b hL, LS_ext L b hb hf]
  omega
theorem LS_0 : ∀ (L : List Int) (b : Int), LSq (fun _ => (0 : Int)) L b = 0
  | [], _ => rfl
  | d :: L, b => by
    show LSq (fun _ => (0 : Int)) L b + LSq (fun _ => (0 : Int)) L _ = 0
    rw [LS_0 L b, LS_0 L _]
    rfl
/-- a door with which it is nothing doesn't count -/
theorem LS_shut (hb : i32 b) (hd : 0 ≤ d ∧ d < 32) (hL : ∀ e ∈ L, 0 ≤ e ∧ e < 32) (hf : ∀ x, i32 x → f (zor x (zshl 1 d)) = 0) : LSq f (d :: L) b = LSq f L b := by
  show LSq f L b + LSq f L (zor b (zshl 1 d)) = _
  rw [LS_cm hd L b hL, LS_ext (g := fun _ => 0) L b hb hf, LS_0, Int.add_zero]
theorem LS_add : ∀ (L : List Int) (b : Int), LSq (fun x => f x + g x) L b = LSq f L b + LSq g L b
  | [], _ => rfl
  | d :: L, b => by
    show LSq (fun x => f x + g x) L b + LSq (fun x => f x + g x) L _ = LSq f L b + LSq f L _ + (LSq g L b + LSq g L _)
    rw [LS_add L b, LS_add L _]
    omega
theorem dbl_add : ∀ (k : Nat) (x y : Int), dbl k (x + y) = dbl k x + dbl k y
  | 0, _, _ => rfl
  | k + 1, x, y => by
    show 2 * dbl k (x + y) = 2 * dbl k x + 2 * dbl k y
    rw [dbl_add k x y]
    omega
/-- shut doors leave a sum as it is, idle ones double it -/
theorem LS_sel : ∀ (L : List Int) (b : Int), i32 b → (∀ e ∈ L, 0 ≤ e ∧ e < 32) → (∀ d ∈ L, cl d = 0 → ∀ x, i32 x → f (zor x (zshl 1 d)) = 0) → (∀ d ∈ L, cl d = 1 → ∀ x, i32 x → f (zor x (zshl 1 d)) = f x) → (∀ d ∈ L, cl d = 0 ∨ cl d = 1 ∨ cl d = 2) → LSq f L b = dbl (cn1 cl L) (LSq f (sel cl L) b)
  | [], b, _, _, _, _, _ => rfl
  | d :: L, b, hb, hL, h0, h1, h2 => by
    have ih := fun b hb => LS_sel L b hb (fun e he => hL e (List.mem_cons_of_mem _ he)) (fun e he => h0 e (List.mem_cons_of_mem _ he)) (fun e he => h1 e (List.mem_cons_of_mem _ he)) (fun e he => h2 e (List.mem_cons_of_mem _ he))
    have hd := hL d List.mem_cons_self
    have hr : ∀ e ∈ L, 0 ≤ e ∧ e < 32 := fun e he => hL e (List.mem_cons_of_mem _ he)
    rcases h2 d List.mem_cons_self with z | z | z
    · rw [LS_shut hb hd hr (h0 d List.mem_cons_self z), ih b hb]
      rw [cn1_c, sel_c, if_neg (by omega), if_neg (by omega)]
    · rw [LS_idle hb hd hr (h1 d List.mem_cons_self z), ih b hb]
      rw [cn1_c, sel_c, if_pos z, if_neg (by omega)]
      rfl
    · rw [cn1_c, sel_c, if_neg (by omega), if_pos z]
      show LSq f L b + LSq f L (zor b (zshl 1 d)) = dbl (cn1 cl L) (LSq f (sel cl L) b + LSq f (sel cl L) (zor b (zshl 1 d)))
      rw [ih b hb, ih (zor b (zshl 1 d)) (zor_i _ _), dbl_add]
theorem dwn_in : ∀ (n : Nat), ∀ e ∈ dwn n, 0 ≤ e ∧ e < (n : Int)
  | 0, e, h => absurd h List.not_mem_nil
  | n + 1, e, h => by
    rcases List.mem_cons.mp h with z | z
    · omega
    · have := dwn_in n e z
      omega
theorem sel_in : ∀ (n : Nat), ∀ e ∈ sel cl (dwn n), 0 ≤ e ∧ e < (n : Int)
  | 0, e, h => absurd h List.not_mem_nil
  | n + 1, e, h => by
    have ih := sel_in n
    rw [dwn_s, sel_c] at h
    by_cases c : cl (n : Int) = 2
    · rw [if_pos c] at h
      rcases List.mem_cons.mp h with z | z
      · omega
      · have := ih e z
        omega
    · rw [if_neg c] at h
      have := ih e h
      omega
/-- the order of the doors doesn't matter -/
theorem LS_up : ∀ (n : Nat) (f : Int → Int) (b : Int), n ≤ 32 → LSq f (upQ cl n) b = LSq f (sel cl (dwn n)) b
  | 0, _, _, _ => rfl
  | n + 1, f, b, hn => by
    rw [upA_s, dwn_s, sel_c]
    by_cases c : cl (n : Int) = 2
    · rw [if_pos c, if_pos c, LS_app]
      have e1 : LSq f [(n : Int)] = fun x => f x + f (zor x (zshl 1 (n : Int))) := by
        funext x
        rfl
      rw [e1, LS_add, LS_up n f b (by omega)]
      have e2 : LSq (fun x => f (zor x (zshl 1 (n : Int)))) (upQ cl n) b = LSq (fun x => f (zor x (zshl 1 (n : Int)))) (sel cl (dwn n)) b := LS_up n (fun x => f (zor x (zshl 1 (n : Int)))) b (by omega)
      rw [e2, ← LS_cm (f := f) (d := (n : Int)) (by omega) (sel cl (dwn n)) b (fun e he => by have := sel_in n e he; omega)]
      rfl
    · rw [if_neg c, if_neg c]
      exact LS_up n f b (by omega)
theorem upA_mem : ∀ (n : Nat) (e : Int), e ∈ upQ cl n ↔ (0 ≤ e ∧ e < (n : Int)) ∧ cl e = 2
  | 0, e => ⟨fun h => absurd h List.not_mem_nil, fun h => by omega⟩
  | n + 1, e => by
    have ih := upA_mem n e
    rw [upA_s]
    by_cases c : cl (n : Int) = 2
    · rw [if_pos c, List.mem_append, ih, List.mem_singleton]
      constructor
      · rintro (⟨a, b⟩ | rfl)
        · exact ⟨by omega, b⟩
        · exact ⟨by omega, c⟩
      · rintro ⟨a, b⟩
        by_cases z : e = (n : Int)
        · exact Or.inr z
        · exact Or.inl ⟨by omega, b⟩
    · rw [if_neg c, ih]
      constructor
      · rintro ⟨a, b⟩
        exact ⟨by omega, b⟩
      · rintro ⟨a, b⟩
        by_cases z : e = (n : Int)
        · rw [z] at b
          exact absurd b c
        · exact ⟨by omega, b⟩
theorem mulp_mono : ∀ (k s t : Nat), s ≤ t → mulp k s ≤ mulp k t
  | 0, _, _, h => h
  | k + 1, s, t, h => mulp_mono k (s + s) (t + t) (by omega)
theorem mulp_ge : ∀ (k t : Nat), t ≤ mulp k t
  | 0, _ => Nat.le_refl _
  | k + 1, t => by
    have := mulp_ge k (t + t)
    show t ≤ mulp k (t + t)
    omega
theorem az_ok (hk : k < 14) (hl : mulp k (t + t + 2) ≤ 16384) : zor ((mulp k (t + t) : Nat) : Int) (zshl 1 (k : Int)) = ((mulp k (t + t + 1) : Nat) : Int) := by
  obtain ⟨r, h2, hr⟩ := az_all k hk
  have lt : t / 32 < r := by
    refine Classical.byContradiction (fun n => ?_)
    have := mulp_mono k (64 * r + 2) (t + t + 2) (by omega)
    omega
  unfold azQ at h2
  have h3 : (List.range 32).all (fun b => decide (16384 < mulp k (64 * (t / 32) + 2 * b + 2) ∨ zor ((mulp k (64 * (t / 32) + 2 * b) : Nat) : Int) (zshl 1 (k : Int)) = ((mulp k (64 * (t / 32) + 2 * b + 1) : Nat) : Int))) = true := List.all_eq_true.mp h2 (t / 32) (List.mem_range.mpr lt)
  have h4 : decide (16384 < mulp k (64 * (t / 32) + 2 * (t % 32) + 2) ∨ zor ((mulp k (64 * (t / 32) + 2 * (t % 32)) : Nat) : Int) (zshl 1 (k : Int)) = ((mulp k (64 * (t / 32) + 2 * (t % 32) + 1) : Nat) : Int)) = true := List.all_eq_true.mp h3 (t % 32) (List.mem_range.mpr (by omega))
  have h5 := of_decide_eq_true h4
  rw [show 64 * (t / 32) + 2 * (t % 32) = t + t by omega] at h5
  rcases h5 with z | z
  · omega
  · exact z
theorem dbl_mulp : ∀ (k m : Nat), dbl k (m : Int) = ((mulp k m : Nat) : Int)
  | 0, _ => rfl
  | k + 1, m => by
    have ih := dbl_mulp k (m + m)
    have e : ((m + m : Nat) : Int) = (m : Int) + (m : Int) := by omega
    rw [e, dbl_add] at ih
    show 2 * dbl k (m : Int) = ((mulp k (m + m) : Nat) : Int)
    omega
/-- a shift doubles -/
theorem zsh_dbl (hk : k < 15) (m0 : 0 ≤ m) (hl : dbl k m ≤ 16384) : zshl m (k : Int) = dbl k m := by
  obtain ⟨r, h2, hr⟩ := zs_all k hk
  have e := dbl_mulp k m.toNat
  rw [Int.toNat_of_nonneg m0] at e
  rw [e] at hl ⊢
  have lt : m.toNat / 128 < r := by
    refine Classical.byContradiction (fun n => ?_)
    have := mulp_mono k (128 * r) m.toNat (by omega)
    omega
  unfold zsB at h2
  have h3 : (List.range 128).all (fun b => decide (16384 < mulp k (128 * (m.toNat / 128) + b) ∨ zshl ((128 * (m.toNat / 128) + b : Nat) : Int) (k : Int) = ((mulp k (128 * (m.toNat / 128) + b) : Nat) : Int))) = true := List.all_eq_true.mp h2 (m.toNat / 128) (List.mem_range.mpr lt)
  have h4 : decide (16384 < mulp k (128 * (m.toNat / 128) + m.toNat % 128) ∨ zshl ((128 * (m.toNat / 128) + m.toNat % 128 : Nat) : Int) (k : Int) = ((mulp k (128 * (m.toNat / 128) + m.toNat % 128) : Nat) : Int)) = true := List.all_eq_true.mp h3 (m.toNat % 128) (List.mem_range.mpr (by omega))
  have h5 := of_decide_eq_true h4
  rw [show 128 * (m.toNat / 128) + m.toNat % 128 = m.toNat by omega, Int.toNat_of_nonneg m0] at h5
  rcases h5 with z | z
  · omega
  · exact z
/-- all numbers of a stretch are all sets of the doors below k, put to its first -/
theorem SP_LS : ∀ (k t : Nat), k ≤ 14 → mulp k (t + 1) ≤ 16384 → SPs f (mulp k (t + 1)) = SPs f (mulp k t) + LSq f (dwn k) ((mulp k t : Nat) : Int)
  | 0, t, _, _ => rfl
  | k + 1, t, hk, hl => by
    have hl' : mulp k (t + t + 2) ≤ 16384 := by
      have : mulp k (t + 1 + (t + 1)) ≤ 16384 := hl
      rw [show t + 1 + (t + 1) = t + t + 2 by omega] at this
      exact this
    have m1 := mulp_mono k (t + t + 1) (t + t + 2) (by omega)
    have a := SP_LS k (t + t) (by omega) (by omega)
    have c := SP_LS k (t + t + 1) (by omega) hl'
    rw [← az_ok (by omega) hl'] at c
    show SPs f (mulp k (t + 1 + (t + 1))) = SPs f (mulp k (t + t)) + (LSq f (dwn k) ((mulp k (t + t) : Nat) : Int) + LSq f (dwn k) (zor ((mulp k (t + t) : Nat) : Int) (zshl 1 (k : Int))))
    rw [show t + 1 + (t + 1) = t + t + 1 + 1 by omega, c, a]
    omega
theorem mulp_1 : ∀ n : Nat, n ≤ 14 → zshl 1 (n : Int) = ((mulp n 1 : Nat) : Int) ∧ mulp n 1 ≤ 16384 ∧ mulp n 0 = 0 := by decide +kernel
/-- all sets of the doors below D -/
theorem SP_all (D0 : 0 ≤ d) (D1 : d ≤ 14) : SPs f (zshl 1 d).toNat = LSq f (dwn d.toNat) 0 := by
  obtain ⟨m1, m2, m3⟩ := mulp_1 d.toNat (by omega)
  have := SP_LS (f := f) d.toNat 0 (by omega) m2
  rw [Int.toNat_of_nonneg D0] at m1
  rw [m1, Int.toNat_natCast]
  rw [m3] at this
  rw [show SPs f (mulp d.toNat 1) = SPs f 0 + LSq f (dwn d.toNat) ((0 : Nat) : Int) from this]
  show 0 + LSq f (dwn d.toNat) 0 = _
  exact Int.zero_add _
theorem cn1_cnP : ∀ n : Nat, ((cn1 cl (dwn n) : Nat) : Int) = cnP (fun d => cl d = 1) n
  | 0 => rfl
  | n + 1 => by
    have ih := cn1_cnP n
    show ((cn1 cl ((n : Int) :: dwn n) : Nat) : Int) = cnP (fun d => cl d = 1) n + @ite Int (cl (n : Int) = 1) (Classical.propDecidable _) 1 0
    rw [cn1_c]
    by_cases c : cl (n : Int) = 1
    · rw [if_pos c, if_pos c]
      omega
    · rw [if_neg c, if_neg c]
      omega
/-- a set by its parts -/
theorem LA_leaf : ∀ (L : List Int) (b : Int), LAx P L b → P (leafQ Y L b)
  | [], _, h => h
  | d :: L, b, h => by
    rw [leaf_c]
    by_cases c : bitZ Y d
    · rw [if_pos c]
      exact LA_leaf L _ h.2
    · rw [if_neg c]
      exact LA_leaf L _ h.1
theorem LE_leaf : ∀ (L : List Int) (b : Int), P (leafQ Y L b) → LEx P L b
  | [], _, h => h
  | d :: L, b, h => by
    rw [leaf_c] at h
    by_cases c : bitZ Y d
    · rw [if_pos c] at h
      exact Or.inr (LE_leaf L _ h)
    · rw [if_neg c] at h
      exact Or.inl (LE_leaf L _ h)
theorem leaf_i : ∀ (L : List Int) (b : Int), i32 b → i32 (leafQ Y L b)
  | [], _, h => h
  | d :: L, b, h => by
    rw [leaf_c]
    by_cases c : bitZ Y d
    · rw [if_pos c]
      exact leaf_i L _ (zor_i _ _)
    · rw [if_neg c]
      exact leaf_i L _ h
theorem leaf_bits {j : Int} (j0 : 0 ≤ j) (j1 : j < 32) : ∀ (L : List Int) (b : Int), (∀ e ∈ L, 0 ≤ e ∧ e < 32) → (bitZ (leafQ Y L b) j ↔ bitZ b j ∨ (j ∈ L ∧ bitZ Y j))
  | [], b, _ => ⟨Or.inl, fun h => h.elim id (fun h => absurd h.1 List.not_mem_nil)⟩
  | d :: L, b, hL => by
    have hd := hL d List.mem_cons_self
    have hr : ∀ e ∈ L, 0 ≤ e ∧ e < 32 := fun e he => hL e (List.mem_cons_of_mem _ he)
    rw [leaf_c]
    by_cases c : bitZ Y d
    · rw [if_pos c, leaf_bits j0 j1 L _ hr, bit_or j0 j1, bit_shl hd.1 hd.2 j0 j1, List.mem_cons]
      constructor
      · rintro ((h | h) | h)
        · exact Or.inl h
        · rw [h]
          exact Or.inr ⟨Or.inl rfl, c⟩
        · exact Or.inr ⟨Or.inr h.1, h.2⟩
      · rintro (h | ⟨h | h, w⟩)
        · exact Or.inl (Or.inl h)
        · exact Or.inl (Or.inr h)
        · exact Or.inr ⟨h, w⟩
    · rw [if_neg c, leaf_bits j0 j1 L _ hr, List.mem_cons]
      constructor
      · rintro (h | h)
        · exact Or.inl h
        · exact Or.inr ⟨Or.inr h.1, h.2⟩
      · rintro (h | ⟨h | h, w⟩)
        · exact Or.inl h
        · rw [h] at w
          exact absurd w c
        · exact Or.inr ⟨h, w⟩
/-- what all sets out of L have -/
theorem LA_of {J : Int → Prop} (hJ : ∀ d ∈ M, ∀ x, J x → J (zor x (zshl 1 d))) (hP : ∀ x, J x → P x) : ∀ (L : List Int) (b : Int), (∀ e ∈ L, e ∈ M) → J b → LAx P L b
  | [], b, _, h => hP b h
  | d :: L, b, hL, h => ⟨LA_of hJ hP L b (fun e he => hL e (List.mem_cons_of_mem _ he)) h, LA_of hJ hP L _ (fun e he => hL e (List.mem_cons_of_mem _ he)) (hJ d (hL d List.mem_cons_self) b h)⟩
theorem LE_get {J : Int → Prop} (hJ : ∀ d ∈ M, ∀ x, J x → J (zor x (zshl 1 d))) : ∀ (L : List Int) (b : Int), (∀ e ∈ L, e ∈ M) → J b → LEx P L b → ∃ x, J x ∧ P x
  | [], b, _, h, p => ⟨b, h, p⟩
  | d :: L, b, hL, h, p => p.elim (fun p => LE_get hJ L b (fun e he => hL e (List.mem_cons_of_mem _ he)) h p) (fun p => LE_get hJ L _ (fun e he => hL e (List.mem_cons_of_mem _ he)) (hJ d (hL d List.mem_cons_self) b h) p)
theorem LA_LE : ∀ (L : List Int) (b : Int), LAx P L b → LEx R L b → LEx (fun x => P x ∧ R x) L b
  | [], b, h, p => ⟨h, p⟩
  | d :: L, b, h, p => p.elim (fun p => Or.inl (LA_LE L b h.1 p)) (fun p => Or.inr (LA_LE L _ h.2 p))
end F1
end
section
/-! found, part f2: what is gathered over sets, set by set; both ways give alike -/
/-- fewer bits, or as many and no greater -/
def lsE (v x : Int) : Prop := pcP v 14 < pcP x 14 ∨ (pcP v 14 = pcP x 14 ∧ v ≤ x)
noncomputable def lsS (v x : Int) : Int := @ite Int (v < 0 ∨ pcP x 14 < pcP v 14 ∨ (pcP x 14 = pcP v 14 ∧ x < v)) (Classical.propDecidable _) x v
def fsp (v : Int) (T : Int → Prop) : Prop := (v = -1 ∧ ∀ x, ¬ T x) ∨ (0 ≤ v ∧ T v ∧ ∀ x, T x → lsE v x)
/-- 0 how many, 1 in all, 2 in some, 3 the least, 10 on: how many come from .. to .. -/
noncomputable def agY (R : Int → Int → Int → Prop) (x : Int) (σ : Int → Int) (i : Int) : Int := if i = 0 then σ 0 + 1 else if i = 1 then zand (σ 1) x else if i = 2 then zor (σ 2) x else if i = 3 then lsS (σ 3) x else σ i + bo (R x ((i - 10) / 10) ((i - 10) % 10))
noncomputable def agS (P : Int → Prop) (R : Int → Int → Int → Prop) (x : Int) (σ : Int → Int) : Int → Int := @ite (Int → Int) (P x) (Classical.propDecidable _) (agY R x σ) σ
noncomputable def foT (P : Int → Prop) (R : Int → Int → Int → Prop) : List Int → Int → (Int → Int) → Int → Int
  | [], b, σ => agS P R b σ
  | d :: L, b, σ => foT P R L (zor b (zshl 1 d)) (foT P R L b σ)
noncomputable def foR (P : Int → Prop) (R : Int → Int → Int → Prop) (σ : Int → Int) : Nat → Int → Int
  | 0 => σ
  | n + 1 => agS P R (n : Int) (foR P R σ n)
def SOK (σ : Int → Int) (B : Int) : Prop := (0 ≤ σ 0 ∧ σ 0 ≤ B) ∧ (-1 ≤ σ 3 ∧ σ 3 < 16384) ∧ ∀ k, 0 ≤ k → k < 100 → 0 ≤ σ (k + 10) ∧ σ (k + 10) ≤ B
def lv : Nat → Int
  | 0 => 1
  | n + 1 => lv n + lv n
section F2
variable {P : Int → Prop} {R : Int → Int → Int → Prop} {σ τ : Int → Int} {T T' : Int → Prop} {x y v v' i j B b : Int} {n : Nat} {L : List Int}
theorem lsS_y (h : v < 0 ∨ pcP x 14 < pcP v 14 ∨ (pcP x 14 = pcP v 14 ∧ x < v)) : lsS v x = x := by unfold lsS; rw [if_pos h]
theorem lsS_n (h : ¬ (v < 0 ∨ pcP x 14 < pcP v 14 ∨ (pcP x 14 = pcP v 14 ∧ x < v))) : lsS v x = v := by unfold lsS; rw [if_neg h]
theorem agS_y (h : P x) : agS P R x σ = agY R x σ := by unfold agS; rw [if_pos h]
theorem agS_n (h : ¬ P x) : agS P R x σ = σ := by unfold agS; rw [if_neg h]
theorem agY_0 : agY R x σ 0 = σ 0 + 1 := by unfold agY; rw [if_pos rfl]
theorem agY_1 : agY R x σ 1 = zand (σ 1) x := by unfold agY; rw [if_neg (by decide), if_pos rfl]
theorem agY_2 : agY R x σ 2 = zor (σ 2) x := by unfold agY; rw [if_neg (by decide), if_neg (by decide), if_pos rfl]
theorem agY_3 : agY R x σ 3 = lsS (σ 3) x := by unfold agY; rw [if_neg (by decide), if_neg (by decide), if_neg (by decide), if_pos rfl]
theorem agY_c (hi : 10 ≤ i) : agY R x σ i = σ i + bo (R x ((i - 10) / 10) ((i - 10) % 10)) := by unfold agY; rw [if_neg (by omega), if_neg (by omega), if_neg (by omega), if_neg (by omega)]
theorem agS_0 : agS P R x σ 0 = σ 0 + bo (P x) := by
  by_cases h : P x
  · rw [agS_y h, agY_0, bo_t h]
  · rw [agS_n h, bo_f h, Int.add_zero]
theorem agS_c (hi : 10 ≤ i) : agS P R x σ i = σ i + bo (P x ∧ R x ((i - 10) / 10) ((i - 10) % 10)) := by
  by_cases h : P x
  · rw [agS_y h, agY_c hi, bo_iff (show R x ((i - 10) / 10) ((i - 10) % 10) ↔ P x ∧ R x ((i - 10) / 10) ((i - 10) % 10) from ⟨fun z => ⟨h, z⟩, fun z => z.2⟩)]
  · rw [agS_n h, bo_f (fun z => h z.1), Int.add_zero]
theorem agS_1 (j0 : 0 ≤ j) (j1 : j < 32) : bitZ (agS P R x σ 1) j ↔ bitZ (σ 1) j ∧ (P x → bitZ x j) := by
  by_cases h : P x
  · rw [agS_y h, agY_1, bit_and j0 j1]
    exact ⟨fun z => ⟨z.1, fun _ => z.2⟩, fun z => ⟨z.1, z.2 h⟩⟩
  · rw [agS_n h]
    exact ⟨fun z => ⟨z, fun y => absurd y h⟩, fun z => z.1⟩
theorem agS_2 (j0 : 0 ≤ j) (j1 : j < 32) : bitZ (agS P R x σ 2) j ↔ bitZ (σ 2) j ∨ (P x ∧ bitZ x j) := by
  by_cases h : P x
  · rw [agS_y h, agY_2, bit_or j0 j1]
    exact ⟨fun z => z.elim Or.inl (fun z => Or.inr ⟨h, z⟩), fun z => z.elim Or.inl (fun z => Or.inr z.2)⟩
  · rw [agS_n h]
    exact ⟨Or.inl, fun z => z.elim id (fun z => absurd z.1 h)⟩
theorem fsp_iff (h : fsp v T) (e : ∀ x, T x ↔ T' x) : fsp v T' := by
  rcases h with ⟨a, c⟩ | ⟨a, c, d⟩
  · exact Or.inl ⟨a, fun x z => c x ((e x).mpr z)⟩
  · exact Or.inr ⟨a, (e v).mp c, fun x z => d x ((e x).mpr z)⟩
theorem fsp_st (x0 : P x → 0 ≤ x) (h : fsp (σ 3) T) : fsp (agS P R x σ 3) (fun y => T y ∨ (P y ∧ x = y)) := by
  by_cases p : P x
  · rw [agS_y p, agY_3]
    have x0 := x0 p
    have new : ∀ w : Int, 0 ≤ w → w = x ∨ T w → (∀ y, T y → lsE w y) → lsE w x → fsp w (fun y => T y ∨ (P y ∧ x = y)) := fun w w0 hw h1 h2 => Or.inr ⟨w0, hw.elim (fun z => Or.inr ⟨by rw [z]; exact p, z.symm⟩) Or.inl, fun y hy => hy.elim (h1 y) (fun z => by rw [← z.2]; exact h2)⟩
    rcases h with ⟨a, c⟩ | ⟨a, c, d⟩
    · rw [lsS_y (Or.inl (by omega))]
      exact new x x0 (Or.inl rfl) (fun y hy => absurd hy (c y)) (Or.inr ⟨rfl, Int.le_refl _⟩)
    · by_cases z : σ 3 < 0 ∨ pcP x 14 < pcP (σ 3) 14 ∨ (pcP x 14 = pcP (σ 3) 14 ∧ x < σ 3)
      · rw [lsS_y z]
        refine new x x0 (Or.inl rfl) (fun y hy => ?_) (Or.inr ⟨rfl, Int.le_refl _⟩)
        have := d y hy
        unfold lsE at this ⊢
        omega
      · rw [lsS_n z]
        refine new _ a (Or.inr c) d ?_
        unfold lsE
        omega
  · rw [agS_n p]
    exact fsp_iff h (fun y => ⟨Or.inl, fun z => z.elim id (fun z => absurd (by rw [z.2]; exact z.1) p)⟩)
theorem fsp_one (h : fsp v T) (g : fsp v' T) : v = v' := by
  rcases h with ⟨a, c⟩ | ⟨a, c, d⟩
  · rcases g with ⟨a', _⟩ | ⟨_, c', _⟩
    · rw [a, a']
    · exact absurd c' (c _)
  · rcases g with ⟨_, c'⟩ | ⟨a', c', d'⟩
    · exact absurd c (c' _)
    · have p := d _ c'
      have q := d' _ c
      unfold lsE at p q
      omega
theorem fT_0 : ∀ (L : List Int) (b : Int) (σ : Int → Int), foT P R L b σ 0 = σ 0 + LSq (fun x => bo (P x)) L b
  | [], b, σ => agS_0
  | d :: L, b, σ => by
    show foT P R L (zor b (zshl 1 d)) (foT P R L b σ) 0 = σ 0 + (LSq (fun x => bo (P x)) L b + LSq (fun x => bo (P x)) L (zor b (zshl 1 d)))
    rw [fT_0 L _ _, fT_0 L b σ]
    omega
theorem fT_c (hi : 10 ≤ i) : ∀ (L : List Int) (b : Int) (σ : Int → Int), foT P R L b σ i = σ i + LSq (fun x => bo (P x ∧ R x ((i - 10) / 10) ((i - 10) % 10))) L b
  | [], b, σ => agS_c hi
  | d :: L, b, σ => by
    show foT P R L (zor b (zshl 1 d)) (foT P R L b σ) i = σ i + (LSq (fun x => bo (P x ∧ R x ((i - 10) / 10) ((i - 10) % 10))) L b + LSq (fun x => bo (P x ∧ R x ((i - 10) / 10) ((i - 10) % 10))) L (zor b (zshl 1 d)))
    rw [fT_c hi L _ _, fT_c hi L b σ]
    omega
theorem fT_1 (j0 : 0 ≤ j) (j1 : j < 32) : ∀ (L : List Int) (b : Int) (σ : Int → Int), bitZ (foT P R L b σ 1) j ↔ bitZ (σ 1) j ∧ LAx (fun x => P x → bitZ x j) L b
  | [], b, σ => agS_1 j0 j1
  | d :: L, b, σ => by
    show bitZ (foT P R L (zor b (zshl 1 d)) (foT P R L b σ) 1) j ↔ bitZ (σ 1) j ∧ (LAx (fun x => P x → bitZ x j) L b ∧ LAx (fun x => P x → bitZ x j) L (zor b (zshl 1 d)))
    rw [fT_1 j0 j1 L _ _, fT_1 j0 j1 L b σ]
    exact ⟨fun z => ⟨z.1.1, z.1.2, z.2⟩, fun z => ⟨⟨z.1, z.2.1⟩, z.2.2⟩⟩
theorem fT_2 (j0 : 0 ≤ j) (j1 : j < 32) : ∀ (L : List Int) (b : Int) (σ : Int → Int), bitZ (foT P R L b σ 2) j ↔ bitZ (σ 2) j ∨ LEx (fun x => P x ∧ bitZ x j) L b
  | [], b, σ => agS_2 j0 j1
  | d :: L, b, σ => by
    show bitZ (foT P R L (zor b (zshl 1 d)) (foT P R L b σ) 2) j ↔ bitZ (σ 2) j ∨ (LEx (fun x => P x ∧ bitZ x j) L b ∨ LEx (fun x => P x ∧ bitZ x j) L (zor b (zshl 1 d)))
    rw [fT_2 j0 j1 L _ _, fT_2 j0 j1 L b σ]
    exact ⟨fun z => z.elim (fun z => z.elim Or.inl (fun z => Or.inr (Or.inl z))) (fun z => Or.inr (Or.inr z)), fun z => z.elim (fun z => Or.inl (Or.inl z)) (fun z => z.elim (fun z => Or.inl (Or.inr z)) Or.inr)⟩
theorem fT_3 (hp : ∀ x, P x → 0 ≤ x) : ∀ (L : List Int) (b : Int) (σ : Int → Int) (T : Int → Prop), fsp (σ 3) T → fsp (foT P R L b σ 3) (fun y => T y ∨ (P y ∧ LEx (fun x => x = y) L b))
  | [], b, σ, T, h => fsp_st (hp b) h
  | d :: L, b, σ, T, h => by
    have a := fT_3 hp L b σ T h
    have c := fT_3 hp L (zor b (zshl 1 d)) (foT P R L b σ) _ a
    refine fsp_iff c (fun y => ?_)
    show ((T y ∨ (P y ∧ LEx (fun x => x = y) L b)) ∨ (P y ∧ LEx (fun x => x = y) L (zor b (zshl 1 d)))) ↔ T y ∨ (P y ∧ (LEx (fun x => x = y) L b ∨ LEx (fun x => x = y) L (zor b (zshl 1 d))))
    exact ⟨fun z => z.elim (fun z => z.elim Or.inl (fun z => Or.inr ⟨z.1, Or.inl z.2⟩)) (fun z => Or.inr ⟨z.1, Or.inr z.2⟩), fun z => z.elim (fun z => Or.inl (Or.inl z)) (fun z => z.2.elim (fun w => Or.inl (Or.inr ⟨z.1, w⟩)) (fun w => Or.inr ⟨z.1, w⟩))⟩
theorem agS_i (h1 : i32 (σ 1)) (h2 : i32 (σ 2)) : i32 (agS P R x σ 1) ∧ i32 (agS P R x σ 2) := by
  by_cases p : P x
  · rw [agS_y p, agY_1, agY_2]
    exact ⟨zand_i _ _, zor_i _ _⟩
  · rw [agS_n p]
    exact ⟨h1, h2⟩
theorem fT_i : ∀ (L : List Int) (b : Int) (σ : Int → Int), i32 (σ 1) → i32 (σ 2) → i32 (foT P R L b σ 1) ∧ i32 (foT P R L b σ 2)
  | [], b, σ, h1, h2 => agS_i h1 h2
  | d :: L, b, σ, h1, h2 => by
    have a := fT_i L b σ h1 h2
    exact fT_i L (zor b (zshl 1 d)) (foT P R L b σ) a.1 a.2
theorem SOK_st (h : SOK σ B) (x0 : 0 ≤ x) (x1 : x < 16384) : SOK (agS P R x σ) (B + 1) := by
  obtain ⟨a, b, c⟩ := h
  have p := bo_01 (P x)
  refine ⟨by rw [agS_0]; omega, ?_, fun k k0 k1 => ?_⟩
  · by_cases q : P x
    · rw [agS_y q, agY_3]
      by_cases z : σ 3 < 0 ∨ pcP x 14 < pcP (σ 3) 14 ∨ (pcP x 14 = pcP (σ 3) 14 ∧ x < σ 3)
      · rw [lsS_y z]; omega
      · rw [lsS_n z]; omega
    · rw [agS_n q]; exact b
  · have d := c k k0 k1
    rw [agS_c (by omega)]
    have q := bo_01 (P x ∧ R x ((k + 10 - 10) / 10) ((k + 10 - 10) % 10))
    omega
theorem SOK_le (h : SOK σ B) {C : Int} (hc : B ≤ C) : SOK σ C := by
  obtain ⟨a, b, c⟩ := h
  exact ⟨by omega, b, fun k k0 k1 => by have := c k k0 k1; omega⟩
theorem lv_1 : ∀ n : Nat, 1 ≤ lv n
  | 0 => by decide
  | n + 1 => by
    have := lv_1 n
    show 1 ≤ lv n + lv n
    omega
theorem lv_14 : ∀ n : Nat, n ≤ 14 → lv n ≤ 16384 := by decide +kernel
theorem fR_0 : ∀ n : Nat, foR P R σ n 0 = σ 0 + SPs (fun x => bo (P x)) n
  | 0 => (Int.add_zero _).symm
  | n + 1 => by
    have ih := fR_0 n
    show agS P R (n : Int) (foR P R σ n) 0 = σ 0 + (SPs (fun x => bo (P x)) n + bo (P (n : Int)))
    rw [agS_0, ih]
    omega
theorem fR_c (hi : 10 ≤ i) : ∀ n : Nat, foR P R σ n i = σ i + SPs (fun x => bo (P x ∧ R x ((i - 10) / 10) ((i - 10) % 10))) n
  | 0 => (Int.add_zero _).symm
  | n + 1 => by
    have ih := fR_c hi n
    show agS P R (n : Int) (foR P R σ n) i = σ i + (SPs (fun x => bo (P x ∧ R x ((i - 10) / 10) ((i - 10) % 10))) n + bo (P (n : Int) ∧ R (n : Int) ((i - 10) / 10) ((i - 10) % 10)))
    rw [agS_c hi, ih]
    omega
theorem fR_1 (j0 : 0 ≤ j) (j1 : j < 32) : ∀ n : Nat, bitZ (foR P R σ n 1) j ↔ bitZ (σ 1) j ∧ ∀ x, 0 ≤ x → x < (n : Int) → P x → bitZ x j
  | 0 => ⟨fun z => ⟨z, fun x x0 x1 => by omega⟩, fun z => z.1⟩
  | n + 1 => by
    have ih := fR_1 j0 j1 n
    show bitZ (agS P R (n : Int) (foR P R σ n) 1) j ↔ _
    rw [agS_1 j0 j1, ih]
    constructor
    · rintro ⟨⟨a, c⟩, d⟩
      refine ⟨a, fun x x0 x1 p => ?_⟩
      by_cases z : x = (n : Int)
      · rw [z] at p ⊢
        exact d p
      · exact c x x0 (by omega) p
    · rintro ⟨a, c⟩
      exact ⟨⟨a, fun x x0 x1 p => c x x0 (by omega) p⟩, fun p => c _ (by omega) (by omega) p⟩
theorem fR_2 (j0 : 0 ≤ j) (j1 : j < 32) : ∀ n : Nat, bitZ (foR P R σ n 2) j ↔ bitZ (σ 2) j ∨ ∃ x, 0 ≤ x ∧ x < (n : Int) ∧ P x ∧ bitZ x j
  | 0 => ⟨Or.inl, fun z => z.elim id (fun ⟨x, x0, x1, _⟩ => by omega)⟩
  | n + 1 => by
    have ih := fR_2 j0 j1 n
    show bitZ (agS P R (n : Int) (foR P R σ n) 2) j ↔ _
    rw [agS_2 j0 j1, ih]
    constructor
    · rintro ((a | ⟨x, x0, x1, c⟩) | c)
      · exact Or.inl a
      · exact Or.inr ⟨x, x0, by omega, c⟩
      · exact Or.inr ⟨_, by omega, by omega, c⟩
    · rintro (a | ⟨x, x0, x1, c⟩)
      · exact Or.inl (Or.inl a)
      · by_cases z : x = (n : Int)
        · rw [z] at c
          exact Or.inr c
        · exact Or.inl (Or.inr ⟨x, x0, by omega, c⟩)
theorem fR_3 (h : fsp (σ 3) T) : ∀ n : Nat, fsp (foR P R σ n 3) (fun x => T x ∨ (P x ∧ 0 ≤ x ∧ x < (n : Int)))
  | 0 => fsp_iff h (fun x => ⟨Or.inl, fun z => z.elim id (fun z => by have z1 := z.2.1; have z2 := z.2.2; omega)⟩)
  | n + 1 => by
    have ih := fR_3 h n
    refine fsp_iff (fsp_st (P := P) (R := R) (x := (n : Int)) (fun _ => by omega) ih) (fun x => ?_)
    constructor
    · rintro ((a | ⟨a, c, d⟩) | ⟨a, c⟩)
      · exact Or.inl a
      · exact Or.inr ⟨a, c, by omega⟩
      · exact Or.inr ⟨a, by omega, by omega⟩
    · rintro (a | ⟨a, c, d⟩)
      · exact Or.inl (Or.inl a)
      · by_cases z : x = (n : Int)
        · exact Or.inr ⟨a, z.symm⟩
        · exact Or.inl (Or.inr ⟨a, c, by omega⟩)
theorem fR_i (h1 : i32 (σ 1)) (h2 : i32 (σ 2)) : ∀ n : Nat, i32 (foR P R σ n 1) ∧ i32 (foR P R σ n 2)
  | 0 => ⟨h1, h2⟩
  | n + 1 => by
    have ih := fR_i h1 h2 n
    exact agS_i ih.1 ih.2
theorem fR_ok (h : SOK σ 0) : ∀ n : Nat, n ≤ 16384 → SOK (foR P R σ n) (n : Int)
  | 0, _ => h
  | n + 1, hn => by
    have ih := fR_ok h n (by omega)
    have := SOK_st (P := P) (R := R) (x := (n : Int)) ih (by omega) (by omega)
    exact SOK_le this (by omega)
end F2
end
section
/-! found, part f3: over all sets and over those of the doors that let by now: alike -/
def GS (D S0 x : Int) : Prop := i32 x ∧ ∀ j, 0 ≤ j → j < 32 → bitZ x j → j < D ∧ ¬ bitZ S0 j
/-- doors of three kinds: shut (0), idle (1), those that let by (2); what fits hangs on the last alone -/
def FHY (D S0 : Int) (cl : Int → Int) (fit : Int → Prop) (R : Int → Int → Int → Prop) (P : Int → Prop) : Prop := (0 ≤ D ∧ D ≤ 14) ∧ (∀ d, 0 ≤ d → d < D → (cl d = 0 ∧ bitZ S0 d) ∨ (cl d = 1 ∧ ¬ bitZ S0 d) ∨ (cl d = 2 ∧ ¬ bitZ S0 d)) ∧ (∀ x, P x ↔ GS D S0 x ∧ fit x) ∧ ∀ x y, (∀ d, 0 ≤ d → d < D → cl d = 2 → (bitZ x d ↔ bitZ y d)) → (fit x ↔ fit y) ∧ ∀ a b, R x a b ↔ R y a b
/-- what is gathered at first -/
def st0 (m : Int) : Int → Int := fun i => if i = 1 then m else if i = 3 then -1 else 0
theorem bit_all14 : ∀ n : Nat, n ≤ 14 → ∀ b : Nat, b < 32 → (bitZ (zshl 1 (n : Int) - 1) (b : Int) ↔ b < n) := by decide +kernel
theorem shl_powQ : ∀ n : Nat, n ≤ 14 → zshl 1 (n : Int) = ((2 ^ n : Nat) : Int) := by decide +kernel
section F3
variable {P fit : Int → Prop} {R : Int → Int → Int → Prop} {cl : Int → Int} {D S0 x y d j s k : Int}
theorem ba14 (D0 : 0 ≤ D ∧ D ≤ 14) (j0 : 0 ≤ j) (j1 : j < 32) : bitZ (zshl 1 D - 1) j ↔ j < D := by
  have := bit_all14 D.toNat (by omega) j.toNat (by omega)
  rw [Int.toNat_of_nonneg D0.1, Int.toNat_of_nonneg j0] at this
  rw [this]
  omega
theorem sh14 (D0 : 0 ≤ D ∧ D ≤ 14) : 1 ≤ zshl 1 D ∧ zshl 1 D ≤ 16384 := by
  have := shl_14 D.toNat (by omega)
  rw [Int.toNat_of_nonneg D0.1] at this
  exact this
theorem GS_lt (D0 : 0 ≤ D ∧ D ≤ 14) (h : GS D S0 x) : 0 ≤ x ∧ x < zshl 1 D := by
  have s := sh14 D0
  have e : zand (zshl 1 D - 1) x = x := by
    refine bit_ext (zand_i _ _) h.1 (fun j j0 j1 => ?_)
    rw [bit_and j0 j1, ba14 D0 j0 j1]
    exact ⟨fun z => z.2, fun z => ⟨(h.2 j j0 j1 z).1, z⟩⟩
  have l := zand_l (a := zshl 1 D - 1) (b := x) (by omega) (by unfold i32; omega)
  rw [e] at l
  omega
theorem lt_GS (D0 : 0 ≤ D ∧ D ≤ 14) (x0 : 0 ≤ x) (x1 : x < zshl 1 D) (hs : zand x S0 = 0) : GS D S0 x := by
  have s := sh14 D0
  refine ⟨by unfold i32; omega, fun j j0 j1 hb => ⟨Classical.byContradiction (fun n => ?_), fun z => absurd hs (zand_ne.mpr ⟨j, j0, j1, hb, z⟩)⟩⟩
  rw [bitZ_iff j0 j1] at hb
  have e1 : (Int32.ofInt x).toBitVec.toNat = x.toNat := ofI x0 (by unfold i32; omega)
  have e2 : (Int32.ofInt x).toBitVec.getLsbD j.toNat = x.toNat.testBit j.toNat := by
    rw [← e1]
    rfl
  have p := shl_powQ D.toNat (by omega)
  rw [Int.toNat_of_nonneg D0.1] at p
  have e3 : (2 : Nat) ^ D.toNat ≤ 2 ^ j.toNat := Nat.pow_le_pow_right (by decide) (by omega)
  have lt : x.toNat < 2 ^ D.toNat := by
    generalize (2 : Nat) ^ D.toNat = M at p ⊢
    omega
  have e4 : x.toNat.testBit j.toNat = false := Nat.testBit_lt_two_pow (Nat.lt_of_lt_of_le lt e3)
  rw [e2, e4] at hb
  exact absurd hb (by decide)
theorem GS_and (h : GS D S0 x) : zand x S0 = 0 := Classical.byContradiction (fun n => by
  obtain ⟨k, k0, k1, a, b⟩ := zand_ne.mp n
  exact (h.2 k k0 k1 a).2 b)
theorem GS_or (d0 : 0 ≤ d) (d1 : d < 32) (hx : i32 x) (nd : d < D ∧ ¬ bitZ S0 d) : GS D S0 (zor x (zshl 1 d)) ↔ GS D S0 x := by
  constructor
  · intro h
    exact ⟨hx, fun j j0 j1 z => h.2 j j0 j1 ((bit_or j0 j1).mpr (Or.inl z))⟩
  · intro h
    refine ⟨zor_i _ _, fun j j0 j1 z => ?_⟩
    rw [bit_or j0 j1, bit_shl d0 d1 j0 j1] at z
    rcases z with z | z
    · exact h.2 j j0 j1 z
    · rw [z]
      exact nd
theorem or_bit (d0 : 0 ≤ d) (d1 : d < 32) (j0 : 0 ≤ j) (j1 : j < 32) (ne : j ≠ d) : bitZ (zor x (zshl 1 d)) j ↔ bitZ x j := by
  rw [bit_or j0 j1, bit_shl d0 d1 j0 j1]
  exact ⟨fun z => z.elim id (fun z => absurd z ne), Or.inl⟩
theorem P_idle (H : FHY D S0 cl fit R P) (d0 : 0 ≤ d) (d1 : d < D) (c : cl d = 1) (hx : i32 x) : (P (zor x (zshl 1 d)) ↔ P x) ∧ ∀ a b, R (zor x (zshl 1 d)) a b ↔ R x a b := by
  obtain ⟨D0, h1, h2, h3⟩ := H
  have e := h3 (zor x (zshl 1 d)) x (fun j j0 j1 cj => or_bit d0 (by omega) j0 (by omega) (fun z => by rw [z] at cj; omega))
  refine ⟨?_, e.2⟩
  rw [h2, h2, e.1, GS_or d0 (by omega) hx ⟨d1, by
    rcases h1 d d0 d1 with z | z | z
    · omega
    · exact z.2
    · exact z.2⟩]
theorem P_shut (H : FHY D S0 cl fit R P) (d0 : 0 ≤ d) (d1 : d < D) (c : cl d = 0) : ¬ P (zor x (zshl 1 d)) := by
  obtain ⟨D0, h1, h2, h3⟩ := H
  intro p
  have g := ((h2 _).mp p).1.2 d d0 (by omega) ((bit_or d0 (by omega)).mpr (Or.inr ((bit_shl d0 (by omega) d0 (by omega)).mpr rfl)))
  rcases h1 d d0 d1 with z | z | z
  · exact g.2 z.2
  · omega
  · omega
theorem sum_R {f : Int → Int} (H : FHY D S0 cl fit R P) (f0 : ∀ d, 0 ≤ d → d < D → cl d = 0 → ∀ x, i32 x → f (zor x (zshl 1 d)) = 0) (f1 : ∀ d, 0 ≤ d → d < D → cl d = 1 → ∀ x, i32 x → f (zor x (zshl 1 d)) = f x) : SPs f (zshl 1 D).toNat = dbl (cn1 cl (dwn D.toNat)) (LSq f (upQ cl D.toNat) 0) := by
  obtain ⟨D0, h1, -⟩ := H
  have dn : ∀ e ∈ dwn D.toNat, 0 ≤ e ∧ e < D := fun e he => by have := dwn_in _ e he; omega
  rw [SP_all D0.1 D0.2, LS_up _ _ _ (by omega)]
  refine LS_sel _ _ z32 (fun e he => by have := dn e he; omega) (fun d hd => f0 d (dn d hd).1 (dn d hd).2) (fun d hd => f1 d (dn d hd).1 (dn d hd).2) (fun d hd => ?_)
  rcases h1 d (dn d hd).1 (dn d hd).2 with z | z | z
  · exact Or.inl z.1
  · exact Or.inr (Or.inl z.1)
  · exact Or.inr (Or.inr z.1)
theorem many_R (H : FHY D S0 cl fit R P) : SPs (fun x => bo (P x)) (zshl 1 D).toNat = dbl (cn1 cl (dwn D.toNat)) (LSq (fun x => bo (P x)) (upQ cl D.toNat) 0) :=
  sum_R H (fun _ d0 d1 c _ _ => bo_f (P_shut H d0 d1 c)) (fun _ d0 d1 c _ hx => bo_iff (P_idle H d0 d1 c hx).1)
theorem come_R {a b : Int} (H : FHY D S0 cl fit R P) : SPs (fun x => bo (P x ∧ R x a b)) (zshl 1 D).toNat = dbl (cn1 cl (dwn D.toNat)) (LSq (fun x => bo (P x ∧ R x a b)) (upQ cl D.toNat) 0) :=
  sum_R H (fun _ d0 d1 c _ _ => bo_f (fun z => P_shut H d0 d1 c z.1)) (fun _ d0 d1 c _ hx => bo_iff (and_congr (P_idle H d0 d1 c hx).1 ((P_idle H d0 d1 c hx).2 a b)))
/-- the sets of doors that let by -/
def JSq (cl : Int → Int) (D x : Int) : Prop := i32 x ∧ ∀ j, 0 ≤ j → j < 32 → bitZ x j → (0 ≤ j ∧ j < D) ∧ cl j = 2
theorem JS_or (D0 : 0 ≤ D ∧ D ≤ 14) : ∀ d ∈ upQ cl D.toNat, ∀ x, JSq cl D x → JSq cl D (zor x (zshl 1 d)) := by
  intro d hd x hx
  have m := (upA_mem D.toNat d).mp hd
  refine ⟨zor_i _ _, fun j j0 j1 z => ?_⟩
  rw [bit_or j0 j1, bit_shl m.1.1 (by omega) j0 j1] at z
  rcases z with z | z
  · exact hx.2 j j0 j1 z
  · rw [z]
    exact ⟨by omega, m.2⟩
theorem JS_0 : JSq cl D 0 := ⟨z32, fun _ _ _ z => absurd z bit_zero⟩
theorem JS_GS (H : FHY D S0 cl fit R P) (h : JSq cl D x) : GS D S0 x := by
  obtain ⟨D0, h1, -⟩ := H
  refine ⟨h.1, fun j j0 j1 z => ?_⟩
  have m := h.2 j j0 j1 z
  refine ⟨m.1.2, ?_⟩
  rcases h1 j j0 m.1.2 with w | w | w
  · omega
  · omega
  · exact w.2
/-- of a set those doors that let by -/
theorem part_of (H : FHY D S0 cl fit R P) (hs : P s) : ∃ y, y = leafQ s (upQ cl D.toNat) 0 ∧ JSq cl D y ∧ P y ∧ ∀ j, 0 ≤ j → j < 32 → (bitZ y j ↔ ((0 ≤ j ∧ j < D) ∧ cl j = 2) ∧ bitZ s j) := by
  have D0 := H.1
  have hL : ∀ e ∈ upQ cl D.toNat, 0 ≤ e ∧ e < 32 := fun e he => by have := (upA_mem D.toNat e).mp he; omega
  have bb : ∀ j, 0 ≤ j → j < 32 → (bitZ (leafQ s (upQ cl D.toNat) 0) j ↔ ((0 ≤ j ∧ j < D) ∧ cl j = 2) ∧ bitZ s j) := fun j j0 j1 => by
    rw [leaf_bits j0 j1 _ _ hL, upA_mem]
    constructor
    · rintro (z | ⟨z, w⟩)
      · exact absurd z bit_zero
      · exact ⟨⟨by omega, z.2⟩, w⟩
    · rintro ⟨z, w⟩
      exact Or.inr ⟨⟨by omega, z.2⟩, w⟩
  have jy : JSq cl D (leafQ s (upQ cl D.toNat) 0) := ⟨leaf_i _ _ z32, fun j j0 j1 z => ((bb j j0 j1).mp z).1⟩
  refine ⟨_, rfl, jy, ?_, bb⟩
  obtain ⟨-, h1, h2, h3⟩ := id H
  rw [h2] at hs ⊢
  refine ⟨JS_GS H jy, (h3 _ s (fun d d0 d1 c => ?_)).1.mpr hs.2⟩
  rw [bb d d0 (by omega)]
  exact ⟨fun z => z.2, fun z => ⟨⟨⟨d0, d1⟩, c⟩, z⟩⟩
/-- both ways give alike -/
theorem found_same (H : FHY D S0 cl fit R P) : (foR P R (st0 (zshl 1 D - 1)) (zshl 1 D).toNat 0 = dbl (cn1 cl (dwn D.toNat)) (foT P R (upQ cl D.toNat) 0 (st0 16383) 0)) ∧ (∀ k, 0 ≤ k → k < 100 → foR P R (st0 (zshl 1 D - 1)) (zshl 1 D).toNat (k + 10) = dbl (cn1 cl (dwn D.toNat)) (foT P R (upQ cl D.toNat) 0 (st0 16383) (k + 10))) ∧ (foT P R (upQ cl D.toNat) 0 (st0 16383) 0 ≠ 0 → foR P R (st0 (zshl 1 D - 1)) (zshl 1 D).toNat 1 = foT P R (upQ cl D.toNat) 0 (st0 16383) 1 ∧ ∀ x, (∀ j, 0 ≤ j → j < 32 → (bitZ x j ↔ j < D ∧ cl j = 1)) → foR P R (st0 (zshl 1 D - 1)) (zshl 1 D).toNat 2 = zor (foT P R (upQ cl D.toNat) 0 (st0 16383) 2) x) ∧ foR P R (st0 (zshl 1 D - 1)) (zshl 1 D).toNat 3 = foT P R (upQ cl D.toNat) 0 (st0 16383) 3 := by
  obtain ⟨D0, h1, h2, h3⟩ := id H
  have sN := sh14 D0
  have eN : (((zshl 1 D).toNat : Nat) : Int) = zshl 1 D := Int.toNat_of_nonneg (by omega)
  have pl : ∀ x, P x → 0 ≤ x ∧ x < zshl 1 D := fun x hx => GS_lt D0 ((h2 x).mp hx).1
  have s00 : ∀ m, st0 m 0 = 0 := fun _ => rfl
  have s01 : ∀ m, st0 m 1 = m := fun _ => rfl
  have s02 : ∀ m, st0 m 2 = 0 := fun _ => rfl
  have s03 : ∀ m, st0 m 3 = -1 := fun _ => rfl
  have s0c : ∀ m k, 0 ≤ k → st0 m (k + 10) = 0 := fun m k k0 => by
    unfold st0
    rw [if_neg (by omega), if_neg (by omega)]
  have up : ∀ e ∈ upQ cl D.toNat, e ∈ upQ cl D.toNat := fun _ h => h
  have b14 : ∀ j : Int, 0 ≤ j → j < 32 → j < 14 → bitZ 16383 j := fun j j0 j1 z => by
    have q := b16383 j.toNat (by omega)
    rw [Int.toNat_of_nonneg j0] at q
    exact q.mpr (by omega)
  refine ⟨?_, fun k k0 k1 => ?_, fun hm => ?_, ?_⟩
  · rw [fR_0, fT_0, s00, s00, Int.zero_add, Int.zero_add, many_R H]
  · rw [fR_c (by omega), fT_c (by omega), s0c _ k k0, s0c _ k k0, Int.zero_add, Int.zero_add, come_R H]
  · rw [fT_0, s00, Int.zero_add] at hm
    have ex : LEx P (upQ cl D.toNat) 0 := (LE_LS _ _).mpr (by
      have := LS_nn (f := fun x => bo (P x)) bo_nn (upQ cl D.toNat) 0
      omega)
    have i16 : i32 (16383 : Int) := by unfold i32; omega
    refine ⟨bit_ext (fR_i (by rw [s01]; unfold i32; omega) (by rw [s02]; exact z32) _).1 (fT_i _ _ _ (by rw [s01]; exact i16) (by rw [s02]; exact z32)).1 (fun j j0 j1 => ?_), fun id0 hid => bit_ext (fR_i (by rw [s01]; unfold i32; omega) (by rw [s02]; exact z32) _).2 (zor_i _ _) (fun j j0 j1 => ?_)⟩
    · rw [fR_1 j0 j1, fT_1 j0 j1, s01, s01, ba14 D0 j0 j1]
      constructor
      · rintro ⟨a, c⟩
        refine ⟨b14 j j0 j1 (by omega), LA_of (JS_or D0) (fun x hx p => ?_) _ _ up JS_0⟩
        have := pl x p
        exact c x this.1 (by omega) p
      · rintro ⟨a, c⟩
        refine ⟨?_, fun s s0 s1 p => ?_⟩
        · obtain ⟨x, jx, px, bx⟩ := LE_get (JS_or D0) _ _ up JS_0 (LA_LE _ _ c ex)
          exact (jx.2 j j0 j1 (px bx)).1.2
        · obtain ⟨y, ey, jy, py, by_⟩ := part_of H p
          have z := LA_leaf (Y := s) _ _ c
          rw [← ey] at z
          exact ((by_ j j0 j1).mp (z py)).2
    · rw [fR_2 j0 j1, bit_or j0 j1, fT_2 j0 j1, s02, s02, hid j j0 j1]
      constructor
      · rintro (a | ⟨s, s0, s1, p, bs⟩)
        · exact absurd a bit_zero
        · have g := ((h2 s).mp p).1.2 j j0 j1 bs
          rcases h1 j j0 g.1 with z | z | z
          · exact absurd z.2 g.2
          · exact Or.inr ⟨g.1, z.1⟩
          · obtain ⟨y, ey, jy, py, by_⟩ := part_of H p
            refine Or.inl (Or.inr (LE_leaf (Y := s) _ _ ?_))
            rw [← ey]
            exact ⟨py, (by_ j j0 j1).mpr ⟨⟨⟨j0, g.1⟩, z.1⟩, bs⟩⟩
      · rintro ((a | a) | ⟨a, c⟩)
        · exact absurd a bit_zero
        · obtain ⟨x, jx, px, bx⟩ := LE_get (JS_or D0) _ _ up JS_0 a
          have := pl x px
          exact Or.inr ⟨x, this.1, by omega, px, bx⟩
        · obtain ⟨x, jx, px⟩ := LE_get (JS_or D0) _ _ up JS_0 ex
          have q := (P_idle H j0 a c jx.1).1.mpr px
          have := pl _ q
          exact Or.inr ⟨_, this.1, by omega, q, (bit_or j0 j1).mpr (Or.inr ((bit_shl j0 j1 j0 j1).mpr rfl))⟩
  · have no : fsp (-1) (fun _ => False) := Or.inl ⟨rfl, fun _ z => z⟩
    have a := fR_3 (P := P) (R := R) (σ := st0 (zshl 1 D - 1)) (T := fun _ => False) no (zshl 1 D).toNat
    have c := fT_3 (P := P) (R := R) (fun x hx => (pl x hx).1) (upQ cl D.toNat) 0 (st0 16383) (fun _ => False) no
    refine fsp_one a ?_
    rcases c with ⟨c1, c2⟩ | ⟨c1, c2, c3⟩
    · refine Or.inl ⟨c1, fun s z => ?_⟩
      rcases z with z | z
      · exact z
      · obtain ⟨y, ey, jy, py, _⟩ := part_of H z.1
        exact c2 y (Or.inr ⟨py, LE_leaf (Y := s) _ _ ey.symm⟩)
    · have pv : P (foT P R (upQ cl D.toNat) 0 (st0 16383) 3) := c2.elim (fun z => False.elim z) (fun z => z.1)
      have lv := pl _ pv
      refine Or.inr ⟨c1, Or.inr ⟨pv, lv.1, by omega⟩, fun s z => ?_⟩
      rcases z with z | z
      · exact False.elim z
      · obtain ⟨y, ey, jy, py, by_⟩ := part_of H z.1
        have w := c3 y (Or.inr ⟨py, LE_leaf (Y := s) _ _ ey.symm⟩)
        have sub : ∀ k, 0 ≤ k → k < 32 → bitZ y k → bitZ s k := fun k k0 k1 t => ((by_ k k0 k1).mp t).2
        have pc := pcP_le sub 14 (by decide)
        have e : zand s y = y := bit_ext (zand_i _ _) jy.1 (fun k k0 k1 => by
          rw [bit_and k0 k1]
          exact ⟨fun t => t.2, fun t => ⟨sub k k0 k1 t, t⟩⟩)
        have ll := zand_l (a := s) (b := y) z.2.1 (by unfold i32; omega)
        rw [e] at ll
        unfold lsE at w ⊢
        omega
/-- the pair that tells most -/
def vld (n k : Int) : Prop := k / 10 < n ∧ k % 10 < n ∧ k / 10 ≠ k % 10
def lsr (m c : Int) : Int := if c < m - c then c else m - c
def isT (N n m : Int) (cn : Int → Int) (r w : Int) : Prop := (r = -1 ∧ w = 0 ∧ ∀ k, 0 ≤ k → k < N → vld n k → lsr m (cn k) ≤ 0) ∨ ((0 ≤ r ∧ r < N) ∧ vld n r ∧ w = lsr m (cn r) ∧ 0 < w ∧ ∀ k, 0 ≤ k → k < N → vld n k → lsr m (cn k) ≤ w ∧ (k < r → lsr m (cn k) < w))
theorem lsr_2 (m c : Int) : lsr (2 * m) (2 * c) = 2 * lsr m c := by
  unfold lsr
  split <;> split <;> omega
theorem isT_2 {N n m r w : Int} {cn : Int → Int} (h : isT N n m cn r w) : isT N n (2 * m) (fun k => 2 * cn k) r (2 * w) := by
  rcases h with ⟨a, b, c⟩ | ⟨a, b, c, d, f⟩
  · refine Or.inl ⟨a, by omega, fun k k0 k1 v => ?_⟩
    have := c k k0 k1 v
    show lsr (2 * m) (2 * cn k) ≤ 0
    rw [lsr_2]
    omega
  · refine Or.inr ⟨a, b, ?_, by omega, fun k k0 k1 v => ?_⟩
    · show 2 * w = lsr (2 * m) (2 * cn r)
      rw [lsr_2, c]
    · have := f k k0 k1 v
      show lsr (2 * m) (2 * cn k) ≤ 2 * w ∧ (k < r → lsr (2 * m) (2 * cn k) < 2 * w)
      rw [lsr_2]
      omega
theorem isT_dbl {N n m r w : Int} {cn : Int → Int} (h : isT N n m cn r w) : ∀ k : Nat, isT N n (dbl k m) (fun i => dbl k (cn i)) r (dbl k w)
  | 0 => h
  | k + 1 => isT_2 (isT_dbl h k)
theorem isT_congr {N n m r w : Int} {cn cn' : Int → Int} (h : isT N n m cn r w) (e : ∀ k, 0 ≤ k → k < N → vld n k → cn k = cn' k) : isT N n m cn' r w := by
  rcases h with ⟨a, b, c⟩ | ⟨a, b, c, d, f⟩
  · exact Or.inl ⟨a, b, fun k k0 k1 v => by rw [← e k k0 k1 v]; exact c k k0 k1 v⟩
  · exact Or.inr ⟨a, b, by rw [← e r a.1 a.2 b]; exact c, d, fun k k0 k1 v => by rw [← e k k0 k1 v]; exact f k k0 k1 v⟩
theorem isT_one {N n m r w r' w' : Int} {cn : Int → Int} (h : isT N n m cn r w) (g : isT N n m cn r' w') : r = r' := by
  rcases h with ⟨a, b, c⟩ | ⟨a, b, c, d, f⟩
  · rcases g with ⟨a', _⟩ | ⟨a', b', c', d', _⟩
    · rw [a, a']
    · have := c r' a'.1 a'.2 b'
      omega
  · rcases g with ⟨_, _, c'⟩ | ⟨a', b', c', d', f'⟩
    · have := c' r a.1 a.2 b
      omega
    · have p := f r' a'.1 a'.2 b'
      have q := f' r a.1 a.2 b
      omega
/-- one number more -/
theorem isT_st {N n m r w v : Int} {cn : Int → Int} (N0 : 0 ≤ N) (h : isT N n m cn r w) (hv : v = lsr m (cn N)) : (¬ vld n N ∨ v ≤ w → isT (N + 1) n m cn r w) ∧ (vld n N → w < v → isT (N + 1) n m cn N v) := by
  have w0 : 0 ≤ w := by
    rcases h with ⟨_, b, _⟩ | ⟨_, _, _, d, _⟩ <;> omega
  constructor
  · intro z
    have last : vld n N → lsr m (cn N) ≤ w := fun t => by
      rcases z with z | z
      · exact absurd t z
      · omega
    rcases h with ⟨a, b, c⟩ | ⟨a, b, c, d, f⟩
    · refine Or.inl ⟨a, b, fun k k0 k1 t => ?_⟩
      by_cases y : k = N
      · rw [y] at t ⊢
        have := last t
        omega
      · exact c k k0 (by omega) t
    · refine Or.inr ⟨by omega, b, c, d, fun k k0 k1 t => ?_⟩
      by_cases y : k = N
      · rw [y] at t ⊢
        exact ⟨last t, fun u => by omega⟩
      · exact f k k0 (by omega) t
  · intro t z
    refine Or.inr ⟨by omega, t, hv, by omega, fun k k0 k1 tk => ?_⟩
    by_cases y : k = N
    · rw [y]
      exact ⟨by omega, fun u => by omega⟩
    · rcases h with ⟨a, b, c⟩ | ⟨a, b, c, d, f⟩
      · have := c k k0 (by omega) tk
        exact ⟨by omega, fun _ => by omega⟩
      · have := f k k0 (by omega) tk
        exact ⟨by omega, fun _ => by omega⟩
end F3
end
section
/-! found, part f4: the class's search, set by set -/
def arL (f : Int → Int) : Nat → Int → List Int
  | 0, _ => []
  | m + 1, j => f j :: arL f m (j + 1)
/-- what stands while sets are tried: the arcs, what fits, the walks -/
def FDS (h : LH) (n : Int) (P : Int → Prop) (AE : Int → Int → Int → Prop) (I : Int → Prop) : Prop := RF h ∧ (rd h 90 7 = n ∧ 0 ≤ n ∧ n ≤ 14) ∧ (∀ i, 0 ≤ i → i < n → (0 ≤ rd h 91 i ∧ rd h 91 i < 14) ∧ (0 ≤ rd h 92 i ∧ rd h 92 i ≤ 9) ∧ (0 ≤ rd h 93 i ∧ rd h 93 i ≤ 9) ∧ ∀ x, I x → I (zor x (zshl 1 (rd h 91 i))) ∧ ∀ a b, AE (zor x (zshl 1 (rd h 91 i))) a b ↔ AE x a b ∨ (a = rd h 92 i ∧ b = rd h 93 i)) ∧ (∀ x, I x → (0 ≤ x ∧ x < 16384) ∧ (P x ↔ ∀ k, 0 ≤ k → k < rd h 59 4 → (Rea (AE x) (rd h 65 k) (rd h 66 k) ↔ bitZ (rd h 59 7) k))) ∧ (0 ≤ rd h 59 4 ∧ rd h 59 4 ≤ 10) ∧ ∀ k, 0 ≤ k → k < rd h 59 4 → (0 ≤ rd h 65 k ∧ rd h 65 k ≤ 9) ∧ (0 ≤ rd h 66 k ∧ rd h 66 k ≤ 9)
/-- row j says where one comes by the set x -/
def RWS (h : LH) (AE : Int → Int → Int → Prop) (j x : Int) : Prop := ∀ r, 0 ≤ r → r ≤ 9 → ∀ b, 0 ≤ b → b < 32 → (bitZ (rd h 94 (10 * j + r)) b ↔ Rea (AE x) r b)
def AGC (h : LH) (σ : Int → Int) : Prop := (rd h 90 0 = σ 0 ∧ rd h 90 1 = σ 1 ∧ rd h 90 2 = σ 2 ∧ rd h 90 3 = σ 3) ∧ (rd h 90 6 ≠ 0 → ∀ k, 0 ≤ k → k < 100 → rd h 95 k = σ (k + 10))
def frGr (h g : LH) : Prop := ∀ a i, ¬ (a = 90 ∧ 0 ≤ i ∧ i ≤ 3) → a ≠ 94 → a ≠ 95 → rd g a i = rd h a i
def frWe (h g : LH) : Prop := ∀ a i, ¬ (a = 90 ∧ 0 ≤ i ∧ i ≤ 3) → a ≠ 95 → rd g a i = rd h a i
section F4
variable {xs : Nat → Int} {xl e : Nat} {h g : LH} {Q : Option LV → LH → Prop} {n v1 x B p j : Int} {P I : Int → Prop} {AE : Int → Int → Int → Prop} {σ : Int → Int} {E : Int → Int → Prop}
theorem w90 {i v : Int} (hi : (hav 90 i).1 ≠ 2) (hF : RF h) : RF (wr h 90 i v) := RF_wn hi hF
theorem w94 {i v : Int} (hF : RF h) : RF (wr h 94 i v) := RF_wn (hav_nr (by decide +kernel) i) hF
theorem w95 {i v : Int} (hF : RF h) : RF (wr h 95 i v) := RF_wn (hav_nr (by decide +kernel) i) hF
theorem bit_bo {X : Prop} (h : bitZ p j ↔ X) : zand (zshr p j) 1 = bo X := by
  by_cases z : X
  · rw [bo_t z]
    exact h.mpr z
  · rw [bo_f z]
    exact bitZ_n.mp (fun y => z (h.mp y))
/-- one arc more -/
theorem Rea_add {c t a b : Int} : Rea (fun x y => E x y ∨ (x = c ∧ y = t)) a b ↔ Rea E a b ∨ (Rea E a c ∧ Rea E t b) := by
  constructor
  · intro h
    refine Rea_min (X := fun b => Rea E a b ∨ (Rea E a c ∧ Rea E t b)) (Or.inl Rea_refl) (fun x y hx e => ?_) h
    rcases e with e | ⟨rfl, rfl⟩
    · rcases hx with hx | ⟨h1, h2⟩
      · exact Or.inl (Rea_step hx e)
      · exact Or.inr ⟨h1, Rea_step h2 e⟩
    · rcases hx with hx | ⟨h1, _⟩
      · exact Or.inr ⟨hx, Rea_refl⟩
      · exact Or.inr ⟨h1, Rea_refl⟩
  · rintro (h | ⟨h1, h2⟩)
    · exact Rea_mono (fun x y e => Or.inl e) h
    · exact Rea_trans (Rea_step (Rea_mono (fun x y e => Or.inl e) h1) (Or.inr ⟨rfl, rfl⟩)) (Rea_mono (fun x y e => Or.inl e) h2)
theorem FDS_fr (hs : FDS h n P AE I) (gF : RF g) (f : frGr h g) : FDS g n P AE I := by
  obtain ⟨-, b, c, d, e1, e2⟩ := hs
  have e91 : rd g 91 = rd h 91 := funext (fun i => f 91 i (by omega) (by decide) (by decide))
  have e92 : rd g 92 = rd h 92 := funext (fun i => f 92 i (by omega) (by decide) (by decide))
  have e93 : rd g 93 = rd h 93 := funext (fun i => f 93 i (by omega) (by decide) (by decide))
  have e65 : rd g 65 = rd h 65 := funext (fun i => f 65 i (by omega) (by decide) (by decide))
  have e66 : rd g 66 = rd h 66 := funext (fun i => f 66 i (by omega) (by decide) (by decide))
  have e59 : rd g 59 = rd h 59 := funext (fun i => f 59 i (by omega) (by decide) (by decide))
  have e7 : rd g 90 7 = rd h 90 7 := f 90 7 (by omega) (by decide) (by decide)
  refine ⟨gF, ?_, ?_, ?_, ?_, ?_⟩
  · rw [e7]; exact b
  · rw [e91, e92, e93]; exact c
  · rw [e65, e66, e59]; exact d
  · rw [e59]; exact e1
  · rw [e65, e66, e59]; exact e2
theorem F_countComers (hF : RF h) (h1 : 0 ≤ v1 ∧ v1 ≤ 140) (hB : ∀ k, 0 ≤ k → k < 100 → 0 ≤ rd h 95 k ∧ rd h 95 k ≤ 100000) (k : ∀ g, RF g → (∀ a i, a ≠ 95 → rd g a i = rd h a i) → (∀ k, 0 ≤ k → k < 100 → rd g 95 k = rd h 95 k + zand (zshr (rd h 94 (v1 + k / 10)) (k % 10)) 1) → Q none g) : Rn xs xl e mm_Finder_countComers 0 [some (.inr (.inr 90)), some (.inl v1), none, none, none] [] h Q := by
  have outer : ∀ (m : Nat) (g : LH) (v2 : Int) (o3 o4 : Option LV), 10 - v2 ≤ m → 0 ≤ v2 → v2 ≤ 10 → RF g → (∀ a i, a ≠ 95 → rd g a i = rd h a i) → (∀ k, 0 ≤ k → k < 100 → (k < 10 * v2 → rd g 95 k = rd h 95 k + zand (zshr (rd h 94 (v1 + k / 10)) (k % 10)) 1) ∧ (10 * v2 ≤ k → rd g 95 k = rd h 95 k)) → Rn xs xl e mm_Finder_countComers 2 [some (.inr (.inr 90)), some (.inl v1), some (.inl v2), o3, o4] [] g Q := by
    intro m
    induction m with
    | zero =>
      intro g v2 o3 o4 hm a0 a1 gF gf gs
      exact B_Finder_countComers_2 gF ⟨a0, a1⟩ ⟨fun c => k g gF gf (fun k k0 k1 => (gs k k0 k1).1 (by omega)), fun c => by omega⟩
    | succ m ih =>
      intro g v2 o3 o4 hm a0 a1 gF gf gs
      refine B_Finder_countComers_2 gF ⟨a0, a1⟩ ⟨fun c => k g gF gf (fun k k0 k1 => (gs k k0 k1).1 (by omega)), fun c => ⟨by omega, by omega, ?_⟩⟩
      rw [gf 94 _ (by decide)]
      have inner : ∀ (m2 : Nat) (w : LH) (v4 : Int), 10 - v4 ≤ m2 → 0 ≤ v4 → v4 ≤ 10 → RF w → (∀ a i, a ≠ 95 → rd w a i = rd h a i) → (∀ k, 0 ≤ k → k < 100 → (k < 10 * v2 + v4 → rd w 95 k = rd h 95 k + zand (zshr (rd h 94 (v1 + k / 10)) (k % 10)) 1) ∧ (10 * v2 + v4 ≤ k → rd w 95 k = rd h 95 k)) → Rn xs xl e mm_Finder_countComers 20 [some (.inr (.inr 90)), some (.inl v1), some (.inl v2), some (.inl (rd h 94 (v1 + v2))), some (.inl v4)] [] w Q := by
        intro m2
        have next : ∀ (w : LH) (v4 : Int), 10 ≤ v4 → v4 ≤ 10 → RF w → (∀ a i, a ≠ 95 → rd w a i = rd h a i) → (∀ k, 0 ≤ k → k < 100 → (k < 10 * v2 + v4 → rd w 95 k = rd h 95 k + zand (zshr (rd h 94 (v1 + k / 10)) (k % 10)) 1) ∧ (10 * v2 + v4 ≤ k → rd w 95 k = rd h 95 k)) → Rn xs xl e mm_Finder_countComers 2 [some (.inr (.inr 90)), some (.inl v1), some (.inl (v2 + 1)), some (.inl (rd h 94 (v1 + v2))), some (.inl v4)] [] w Q := fun w v4 c0 c1 wF wf ws =>
          ih w (v2 + 1) _ _ (by omega) (by omega) (by omega) wF wf (fun k k0 k1 => ⟨fun z => (ws k k0 k1).1 (by omega), fun z => (ws k k0 k1).2 (by omega)⟩)
        induction m2 with
        | zero =>
          intro w v4 hm2 b0 b1 wF wf ws
          exact B_Finder_countComers_20 wF ⟨a0, by omega⟩ ⟨b0, b1⟩ ⟨fun c2 => next w v4 c2 b1 wF wf ws, fun c2 => by omega⟩
        | succ m2 im =>
          intro w v4 hm2 b0 b1 wF wf ws
          have b01 := bitZ_01 (rd h 94 (v1 + v2)) v4
          refine B_Finder_countComers_20 wF ⟨a0, by omega⟩ ⟨b0, b1⟩ ⟨fun c2 => next w v4 c2 b1 wF wf ws, fun c2 => ?_⟩
          have old := (ws (10 * v2 + v4) (by omega) (by omega)).2 (Int.le_refl _)
          have bd := hB (10 * v2 + v4) (by omega) (by omega)
          refine ⟨by omega, by omega, by omega, im _ (v4 + 1) (by omega) (by omega) (by omega) (w95 wF) (fun a i n => (rdw_ne (fun z => n z.symm)).trans (wf a i n)) (fun k k0 k1 => ?_)⟩
          by_cases z : k = 10 * v2 + v4
          · refine ⟨fun _ => ?_, fun y => by omega⟩
            rw [z, rdw_eq, old, show (10 * v2 + v4) / 10 = v2 by omega, show (10 * v2 + v4) % 10 = v4 by omega]
          · rw [rdw_nei (fun y => z y.symm)]
            exact ⟨fun y => (ws k k0 k1).1 (by omega), fun y => (ws k k0 k1).2 (by omega)⟩
      exact inner 10 g 0 (by omega) (by omega) (by omega) gF gf (fun k k0 k1 => ⟨fun y => (gs k k0 k1).1 (by omega), fun y => (gs k k0 k1).2 (by omega)⟩)
  exact B_Finder_countComers_0 hF (outer 10 h 0 none none (by omega) (by omega) (by omega) hF (fun _ _ _ => rfl) (fun k k0 k1 => ⟨fun z => by omega, fun _ => rfl⟩))
theorem F_weigh (he : 1 ≤ e) (hs : FDS h n P AE I) (hx : I x) (hr : RWS h AE n x) (hg : AGC h σ) (ho : SOK σ B) (hB : B < 100000) (k : ∀ g, RF g → frWe h g → AGC g (agS P (fun x => Rea (AE x)) x σ) → Q none g) : Rn xs xl e mm_Finder_weigh 0 [some (.inr (.inr 90)), some (.inr (.inr 59)), some (.inl x), none, none, none] [] h Q := by
  obtain ⟨hF, ⟨n7, n0, n1⟩, -, hP, hw, hk⟩ := id hs
  obtain ⟨⟨x0, x1⟩, px⟩ := hP x hx
  obtain ⟨⟨g0, g1, g2, g3⟩, g4⟩ := id hg
  obtain ⟨o0, o3, oc⟩ := id ho
  refine B_Finder_weigh_0 hF ⟨by omega, ?_⟩
  rw [n7]
  -- behind the walks
  have s152 : P x → ∀ (g : LH) (v4 v5 : Int), RF g → (∀ a i, ¬ (a = 90 ∧ 0 ≤ i ∧ i ≤ 3) → rd g a i = rd h a i) → rd g 90 0 = σ 0 + 1 → rd g 90 1 = zand (σ 1) x → rd g 90 2 = zor (σ 2) x → rd g 90 3 = lsS (σ 3) x → Rn xs xl e mm_Finder_weigh 152 [some (.inr (.inr 90)), some (.inr (.inr 59)), some (.inl x), some (.inl (10 * n)), some (.inl v4), some (.inl v5)] [] g Q := by
    intro p g v4 v5 gF gf a0 a1 a2 a3
    have e6 : rd g 90 6 = rd h 90 6 := gf 90 6 (by omega)
    have ag : ∀ w : LH, (∀ i, 0 ≤ i → i ≤ 3 → rd w 90 i = rd g 90 i) → (rd w 90 6 ≠ 0 → ∀ k, 0 ≤ k → k < 100 → rd w 95 k = rd h 95 k + zand (zshr (rd h 94 (10 * n + k / 10)) (k % 10)) 1) → rd w 90 6 = rd h 90 6 → AGC w (agS P (fun x => Rea (AE x)) x σ) := fun w w0 wc w6 => by
      rw [agS_y p]
      refine ⟨⟨?_, ?_, ?_, ?_⟩, fun z k k0 k1 => ?_⟩
      · rw [w0 0 (by decide) (by decide), a0, agY_0]
      · rw [w0 1 (by decide) (by decide), a1, agY_1]
      · rw [w0 2 (by decide) (by decide), a2, agY_2]
      · rw [w0 3 (by decide) (by decide), a3, agY_3]
      · rw [wc z k k0 k1, agY_c (by omega), show k + 10 - 10 = k by omega, g4 (by rw [← w6]; exact z) k k0 k1, bit_bo (hr (k / 10) (by omega) (by omega) (k % 10) (by omega) (by omega))]
    refine B_Finder_weigh_152 gF ⟨fun z => k g gF (fun a i n1 n2 => gf a i n1) (ag g (fun _ _ _ => rfl) (fun y => absurd z y) e6), fun z => ⟨0, by omega, ?_⟩⟩
    have e94 : ∀ i, rd g 94 i = rd h 94 i := fun i => gf 94 i (by omega)
    have e95 : ∀ i, rd g 95 i = rd h 95 i := fun i => gf 95 i (by omega)
    refine F_countComers gF (by omega) (fun k k0 k1 => ?_) (fun w wF wf wc => B_Finder_weigh_164 wF (k w wF (fun a i m1 m2 => (wf a i m2).trans (gf a i m1)) (ag w (fun i _ _ => wf 90 i (by decide)) (fun _ k k0 k1 => ?_) ((wf 90 6 (by decide)).trans e6))))
    · rw [e95, g4 (by rw [← e6]; exact z) k k0 k1]
      have := oc k k0 k1
      omega
    · rw [wc k k0 k1, e95, e94]
  have s67 : P x → ∀ (v4 : Int) (o5 : Option LV), Rn xs xl e mm_Finder_weigh 67 [some (.inr (.inr 90)), some (.inr (.inr 59)), some (.inl x), some (.inl (10 * n)), some (.inl v4), o5] [] h Q := by
    intro p v4 o5
    have F1 : RF (wr (wr (wr h 90 0 (rd h 90 0 + 1)) 90 1 (zand (rd h 90 1) x)) 90 2 (zor (rd h 90 2) x)) := w90 (by decide +kernel) (w90 (by decide +kernel) (w90 (by decide +kernel) hF))
    have r0 : rd (wr (wr (wr h 90 0 (rd h 90 0 + 1)) 90 1 (zand (rd h 90 1) x)) 90 2 (zor (rd h 90 2) x)) 90 0 = σ 0 + 1 := by rw [rdw_nei (by decide), rdw_nei (by decide), rdw_eq, g0]
    have r1 : rd (wr (wr (wr h 90 0 (rd h 90 0 + 1)) 90 1 (zand (rd h 90 1) x)) 90 2 (zor (rd h 90 2) x)) 90 1 = zand (σ 1) x := by rw [rdw_nei (by decide), rdw_eq, g1]
    have r2 : rd (wr (wr (wr h 90 0 (rd h 90 0 + 1)) 90 1 (zand (rd h 90 1) x)) 90 2 (zor (rd h 90 2) x)) 90 2 = zor (σ 2) x := by rw [rdw_eq, g2]
    have r3 : rd (wr (wr (wr h 90 0 (rd h 90 0 + 1)) 90 1 (zand (rd h 90 1) x)) 90 2 (zor (rd h 90 2) x)) 90 3 = σ 3 := by rw [rdw_nei (by decide), rdw_nei (by decide), rdw_nei (by decide), g3]
    have rf : ∀ a i, ¬ (a = 90 ∧ 0 ≤ i ∧ i ≤ 3) → rd (wr (wr (wr h 90 0 (rd h 90 0 + 1)) 90 1 (zand (rd h 90 1) x)) 90 2 (zor (rd h 90 2) x)) a i = rd h a i := fun a i m1 => by rw [rd_wr, if_neg (by omega), rd_wr, if_neg (by omega), rd_wr, if_neg (by omega)]
    have row67 := B_Finder_weigh_67 (xs := xs) (xl := xl) (e := e) (h := h) (Q := Q) (v2 := x) (v3 := 10 * n) (v4 := v4) (o5 := o5) hF
    generalize wr (wr (wr h 90 0 (rd h 90 0 + 1)) 90 1 (zand (rd h 90 1) x)) 90 2 (zor (rd h 90 2) x) = h1 at *
    have s125 : ∀ (v5 : Int), v5 = (if σ 3 < 0 then 15 else pcP (σ 3) 14) → Rn xs xl e mm_Finder_weigh 125 [some (.inr (.inr 90)), some (.inr (.inr 59)), some (.inl x), some (.inl (10 * n)), some (.inl (pcP x 14)), some (.inl v5)] [] h1 Q := by
      intro v5 hv
      have pi := pcP_in x 14
      have new : lsS (σ 3) x = x → Rn xs xl e mm_Finder_weigh 152 [some (.inr (.inr 90)), some (.inr (.inr 59)), some (.inl x), some (.inl (10 * n)), some (.inl (pcP x 14)), some (.inl v5)] [] (wr h1 90 3 x) Q := fun z => s152 p _ _ _ (w90 (by decide +kernel) F1) (fun a i m1 => by rw [rd_wr, if_neg (by omega)]; exact rf a i m1) (by rw [rdw_nei (by decide)]; exact r0) (by rw [rdw_nei (by decide)]; exact r1) (by rw [rdw_nei (by decide)]; exact r2) (by rw [rdw_eq, z])
      have old : lsS (σ 3) x = σ 3 → Rn xs xl e mm_Finder_weigh 152 [some (.inr (.inr 90)), some (.inr (.inr 59)), some (.inl x), some (.inl (10 * n)), some (.inl (pcP x 14)), some (.inl v5)] [] h1 Q := fun z => s152 p _ _ _ F1 rf r0 r1 r2 (by rw [z]; exact r3)
      refine B_Finder_weigh_125 F1 ⟨fun c => new (lsS_y ?_), fun c => ⟨fun c2 => old (lsS_n ?_), fun c2 => ⟨fun c3 => old (lsS_n ?_), fun c3 => new (lsS_y ?_)⟩⟩⟩
      · split at hv <;> omega
      · split at hv <;> omega
      · split at hv <;> omega
      · split at hv <;> omega
    refine row67 ⟨by omega, 0, by omega, F_bitCount F1 x0 x1 (B_Finder_weigh_101 F1 ⟨fun c => ⟨0, by omega, F_bitCount F1 (by omega) (by omega) (B_Finder_weigh_123 F1 (s125 _ ?_))⟩, fun c => s125 _ ?_⟩)⟩
    · rw [if_neg (by omega), r3]
    · rw [if_pos (by omega)]
  have loop : ∀ (m : Nat) (v4 : Int) (o5 : Option LV), rd h 59 4 - v4 ≤ m → 0 ≤ v4 → v4 ≤ rd h 59 4 → (∀ k, 0 ≤ k → k < v4 → (Rea (AE x) (rd h 65 k) (rd h 66 k) ↔ bitZ (rd h 59 7) k)) → Rn xs xl e mm_Finder_weigh 11 [some (.inr (.inr 90)), some (.inr (.inr 59)), some (.inl x), some (.inl (10 * n)), some (.inl v4), o5] [] h Q := by
    intro m
    have stop : ∀ (v4 : Int) (o5 : Option LV), rd h 59 4 ≤ v4 → (∀ k, 0 ≤ k → k < v4 → (Rea (AE x) (rd h 65 k) (rd h 66 k) ↔ bitZ (rd h 59 7) k)) → Rn xs xl e mm_Finder_weigh 67 [some (.inr (.inr 90)), some (.inr (.inr 59)), some (.inl x), some (.inl (10 * n)), some (.inl v4), o5] [] h Q := fun v4 o5 c hh => s67 (px.mpr (fun k k0 k1 => hh k k0 (by omega))) v4 o5
    induction m with
    | zero =>
      intro v4 o5 hm a0 a1 hh
      exact B_Finder_weigh_11 hF ⟨a0, by omega⟩ ⟨fun c => stop v4 o5 c hh, fun c => by omega⟩
    | succ m ih =>
      intro v4 o5 hm a0 a1 hh
      refine B_Finder_weigh_11 hF ⟨a0, by omega⟩ ⟨fun c => stop v4 o5 c hh, fun c => ?_⟩
      obtain ⟨f1, f2⟩ := hk v4 a0 c
      have rb := hr (rd h 65 v4) f1.1 f1.2 (rd h 66 v4) f2.1 (by omega)
      have p1 := bitZ_01 (rd h 94 (10 * n + rd h 65 v4)) (rd h 66 v4)
      have p2 := bitZ_01 (rd h 59 7) v4
      refine ⟨by omega, by omega, by omega, by omega, fun z => ih (v4 + 1) _ (by omega) (by omega) (by omega) (fun k k0 k1 => ?_), fun z => k h hF (fun _ _ _ _ => rfl) ?_⟩
      · by_cases t : k = v4
        · rw [t, ← rb]
          unfold bitZ
          omega
        · exact hh k k0 (by omega)
      · have np : ¬ P x := fun y => by
          have w := (px.mp y) v4 a0 c
          rw [← rb] at w
          unfold bitZ at w
          omega
        rw [agS_n np]
        exact hg
  exact loop 10 0 none (by omega) (by omega) (by omega) (fun k k0 k1 => by omega)
theorem F_grow : ∀ (m : Nat) (e : Nat) (j x B : Int) (σ : Int → Int) (h : LH) (Q : Option LV → LH → Prop), j + (m : Int) = n → 0 ≤ j → m + 2 ≤ e → FDS h n P AE I → I x → RWS h AE j x → AGC h σ → SOK σ B → B + lv m ≤ 100000 → (∀ g, RF g → frGr h g → (∀ i, i < 10 * j + 10 → rd g 94 i = rd h 94 i) → AGC g (foT P (fun x => Rea (AE x)) (arL (rd h 91) m j) x σ) → SOK (foT P (fun x => Rea (AE x)) (arL (rd h 91) m j) x σ) (B + lv m) → Q none g) → Rn xs xl e mm_Finder_grow 0 [some (.inr (.inr 90)), some (.inr (.inr 59)), some (.inl j), some (.inl x), none, none, none, none] [] h Q
  | 0, e, j, x, B, σ, h, Q, hj, j0, he, hs, hx, hr, hg, ho, hB, k => by
    obtain ⟨hF, ⟨n7, n0, n1⟩, -, hP, -⟩ := id hs
    have jn : j = n := by omega
    have l0 : lv 0 = 1 := rfl
    rw [l0] at hB k
    have hr' : RWS h AE n x := by rw [← jn]; exact hr
    obtain ⟨⟨x0, x1⟩, -⟩ := hP x hx
    exact B_Finder_grow_0 hF ⟨j0, by omega⟩ ⟨fun c => by omega, fun c => ⟨1, by omega, F_weigh (Nat.le_refl 1) hs hx hr' hg ho (by omega) (fun g gF gf ga => B_Finder_grow_14 gF (k g gF (fun a i m1 _ m3 => gf a i m1 m3) (fun i _ => gf 94 i (by omega) (by decide)) ga (SOK_st ho x0 x1)))⟩⟩
  | m + 1, e, j, x, B, σ, h, Q, hj, j0, he, hs, hx, hr, hg, ho, hB, k => by
    obtain ⟨hF, ⟨n7, n0, n1⟩, hA, hP, -⟩ := id hs
    have jn : j < n := by omega
    obtain ⟨d1, d2, d3, d4⟩ := hA j j0 jn
    obtain ⟨d5, d6⟩ := d4 x hx
    have l0 : lv (m + 1) = lv m + lv m := rfl
    have l1 := lv_1 m
    rw [l0] at hB k
    refine B_Finder_grow_0 hF ⟨j0, by omega⟩ ⟨fun c => B_Finder_grow_15 hF ⟨j0, by omega⟩ ?_, fun c => by omega⟩
    -- the row is copied
    have c1 : ∀ a i, rd (cpyL h 94 (10 * j) 94 (10 * j + 10) 10 ++ h) a i = if a = 94 ∧ 10 * j + 10 ≤ i ∧ i < 10 * j + 10 + ((10 : Nat) : Int) then rd h 94 (10 * j + (i - (10 * j + 10))) else rd h a i := fun a i => rd_cpy h 94 (10 * j) 94 (10 * j + 10) a i 10
    generalize cpyL h 94 (10 * j) 94 (10 * j + 10) 10 ++ h = h1 at c1 ⊢
    have f1 : ∀ a i, a ≠ 94 → rd h1 a i = rd h a i := fun a i n => by rw [c1, if_neg (fun z => n z.1)]
    have F1 : RF h1 := RF_row (b := 94) (hav_nr (by decide +kernel)) hF f1
    have g1 : frGr h h1 := fun a i _ n2 _ => f1 a i n2
    have S1 : FDS h1 n P AE I := FDS_fr hs F1 g1
    have R1 : RWS h1 AE (j + 1) x := fun r r0 r1 b b0 b1 => by
      rw [c1, if_pos (by omega), show 10 * j + (10 * (j + 1) + r - (10 * j + 10)) = 10 * j + r by omega]
      exact hr r r0 r1 b b0 b1
    have A1 : AGC h1 σ := by
      obtain ⟨⟨x1, x2, x3, x4⟩, x5⟩ := hg
      refine ⟨⟨?_, ?_, ?_, ?_⟩, fun z k k0 k1 => ?_⟩
      · rw [f1 _ _ (by decide)]; exact x1
      · rw [f1 _ _ (by decide)]; exact x2
      · rw [f1 _ _ (by decide)]; exact x3
      · rw [f1 _ _ (by decide)]; exact x4
      · rw [f1 _ _ (by decide)] at z ⊢
        exact x5 z k k0 k1
    have e91 : rd h1 91 = rd h 91 := funext (fun i => f1 91 i (by decide))
    refine B_Finder_grow_45 F1 ⟨j0, by omega⟩ ⟨e - 1, by omega, F_grow m (e - 1) (j + 1) x B σ h1 _ (by omega) (by omega) (by omega) S1 hx R1 A1 ho (by omega) (fun g gF gf g94 ga go => B_Finder_grow_54 gF ?_)⟩
    rw [e91] at ga go
    have hg' : frGr h g := fun a i m1 m2 m3 => (gf a i m1 m2 m3).trans (f1 a i m2)
    have hg94 : ∀ i, i < 10 * j + 10 → rd g 94 i = rd h 94 i := fun i hi => by
      rw [g94 i (by omega), c1, if_neg (by omega)]
    generalize e1 : foT P (fun x => Rea (AE x)) (arL (rd h 91) m (j + 1)) x σ = σ1 at ga go
    generalize eσ : foT P (fun x => Rea (AE x)) (arL (rd h 91) (m + 1) j) x σ = σ9 at k
    have loop : ∀ (fuel : Nat) (w : LH) (v6 : Int) (o7 : Option LV), 10 - v6 ≤ fuel → 0 ≤ v6 → v6 ≤ 10 → RF w → (∀ a i, a ≠ 94 → rd w a i = rd g a i) → (∀ i, i < 10 * j + 10 → rd w 94 i = rd h 94 i) → (∀ r, 0 ≤ r → r < v6 → ∀ b, 0 ≤ b → b < 32 → (bitZ (rd w 94 (10 * j + 10 + r)) b ↔ Rea (AE (zor x (zshl 1 (rd h 91 j)))) r b)) → Rn xs xl e mm_Finder_grow 57 [some (.inr (.inr 90)), some (.inr (.inr 59)), some (.inl j), some (.inl x), some (.inl (10 * j)), some (.inl (10 * j + 10)), some (.inl v6), o7] [] w Q := by
      intro fuel
      have stop : ∀ (w : LH) (v6 : Int) (o7 : Option LV), 10 ≤ v6 → RF w → (∀ a i, a ≠ 94 → rd w a i = rd g a i) → (∀ i, i < 10 * j + 10 → rd w 94 i = rd h 94 i) → (∀ r, 0 ≤ r → r < v6 → ∀ b, 0 ≤ b → b < 32 → (bitZ (rd w 94 (10 * j + 10 + r)) b ↔ Rea (AE (zor x (zshl 1 (rd h 91 j)))) r b)) → Rn xs xl e mm_Finder_grow 143 [some (.inr (.inr 90)), some (.inr (.inr 59)), some (.inl j), some (.inl x), some (.inl (10 * j)), some (.inl (10 * j + 10)), some (.inl v6), o7] [] w Q := by
        intro w v6 o7 c wF wf wh wrow
        have hw : frGr h w := fun a i m1 m2 m3 => (wf a i m2).trans (hg' a i m1 m2 m3)
        have Sw : FDS w n P AE I := FDS_fr hs wF hw
        have e91' : rd w 91 = rd h 91 := funext (fun i => hw 91 i (by omega) (by decide) (by decide))
        have Aw : AGC w σ1 := by
          obtain ⟨⟨x1, x2, x3, x4⟩, x5⟩ := ga
          refine ⟨⟨?_, ?_, ?_, ?_⟩, fun z k k0 k1 => ?_⟩
          · rw [wf _ _ (by decide)]; exact x1
          · rw [wf _ _ (by decide)]; exact x2
          · rw [wf _ _ (by decide)]; exact x3
          · rw [wf _ _ (by decide)]; exact x4
          · rw [wf _ _ (by decide)] at z ⊢
            exact x5 z k k0 k1
        have Rw : RWS w AE (j + 1) (zor x (zshl 1 (rd h 91 j))) := fun r r0 r1 b b0 b1 => by
          rw [show 10 * (j + 1) + r = 10 * j + 10 + r by omega]
          exact wrow r r0 (by omega) b b0 b1
        refine B_Finder_grow_143 wF ⟨j0, by omega⟩ ⟨e - 1, by omega, ?_⟩
        rw [show rd w 91 j = rd h 91 j from congrFun e91' j]
        refine F_grow m (e - 1) (j + 1) (zor x (zshl 1 (rd h 91 j))) (B + lv m) σ1 w _ (by omega) (by omega) (by omega) Sw d5 Rw Aw go (by omega) (fun u uF uf u94 ua uo => B_Finder_grow_161 uF (k u uF (fun a i m1 m2 m3 => (uf a i m1 m2 m3).trans (hw a i m1 m2 m3)) (fun i hi => (u94 i (by omega)).trans (wh i hi)) ?_ ?_))
        · rw [e91'] at ua
          rw [← eσ]
          show AGC u (foT P (fun x => Rea (AE x)) (arL (rd h 91) m (j + 1)) (zor x (zshl 1 (rd h 91 j))) (foT P (fun x => Rea (AE x)) (arL (rd h 91) m (j + 1)) x σ))
          rw [e1]
          exact ua
        · rw [e91'] at uo
          rw [← eσ, ← Int.add_assoc]
          show SOK (foT P (fun x => Rea (AE x)) (arL (rd h 91) m (j + 1)) (zor x (zshl 1 (rd h 91 j))) (foT P (fun x => Rea (AE x)) (arL (rd h 91) m (j + 1)) x σ)) _
          rw [e1]
          exact uo
      induction fuel with
      | zero =>
        intro w v6 o7 hm a0 a1 wF wf wh wrow
        exact B_Finder_grow_57 wF ⟨j0, by omega⟩ ⟨a0, a1⟩ ⟨fun c => stop w v6 o7 c wF wf wh wrow, fun c => by omega⟩
      | succ fuel ih =>
        intro w v6 o7 hm a0 a1 wF wf wh wrow
        refine B_Finder_grow_57 wF ⟨j0, by omega⟩ ⟨a0, a1⟩ ⟨fun c => stop w v6 o7 c wF wf wh wrow, fun c => ?_⟩
        have e92 : rd w 92 j = rd h 92 j := (wf 92 j (by decide)).trans (hg' 92 j (by omega) (by decide) (by decide))
        have e93 : rd w 93 j = rd h 93 j := (wf 93 j (by decide)).trans (hg' 93 j (by omega) (by decide) (by decide))
        have eW : ∀ r, 0 ≤ r → r ≤ 9 → rd w 94 (10 * j + r) = rd h 94 (10 * j + r) := fun r r0 r1 => wh _ (by omega)
        rw [e92, e93, eW v6 a0 (by omega), eW (rd h 93 j) d3.1 d3.2]
        have rf := hr v6 a0 (by omega) (rd h 92 j) d2.1 (by omega)
        have put : ∀ (y : Int) (o : Option LV), (∀ b, 0 ≤ b → b < 32 → (bitZ y b ↔ Rea (AE (zor x (zshl 1 (rd h 91 j)))) v6 b)) → Rn xs xl e mm_Finder_grow 57 [some (.inr (.inr 90)), some (.inr (.inr 59)), some (.inl j), some (.inl x), some (.inl (10 * j)), some (.inl (10 * j + 10)), some (.inl (v6 + 1)), o] [] (wr w 94 (10 * j + 10 + v6) y) Q := fun y o hy => ih _ (v6 + 1) o (by omega) (by omega) (by omega) (w94 wF) (fun a i n => (rdw_ne (fun z => n z.symm)).trans (wf a i n)) (fun i hi => (rdw_nei (by omega)).trans (wh i hi)) (fun r r0 r1 b b0 b1 => by
          by_cases t : r = v6
          · rw [t, rdw_eq]
            exact hy b b0 b1
          · rw [rdw_nei (by omega)]
            exact wrow r r0 (by omega) b b0 b1)
        have rea : ∀ b, Rea (AE (zor x (zshl 1 (rd h 91 j)))) v6 b ↔ Rea (AE x) v6 b ∨ (Rea (AE x) v6 (rd h 92 j) ∧ Rea (AE x) (rd h 93 j) b) := fun b => (Rea_iff d6).trans Rea_add
        refine ⟨by omega, by omega, fun z => ⟨by omega, by omega, by omega, by omega, put _ _ (fun b b0 b1 => ?_)⟩, fun z => ⟨by omega, by omega, by omega, by omega, by omega, by omega, put _ _ (fun b b0 b1 => ?_)⟩⟩
        · have no : ¬ Rea (AE x) v6 (rd h 92 j) := fun y => bitZ_n.mpr z (rf.mpr y)
          rw [bit_or b0 b1, hr v6 a0 (by omega) b b0 b1, rea]
          exact ⟨fun y => y.elim Or.inl (fun y => absurd y bit_zero), fun y => y.elim Or.inl (fun y => absurd y.1 no)⟩
        · have yes : Rea (AE x) v6 (rd h 92 j) := rf.mp (Classical.byContradiction (fun y => z (bitZ_n.mp y)))
          rw [bit_or b0 b1, hr v6 a0 (by omega) b b0 b1, hr (rd h 93 j) d3.1 d3.2 b b0 b1, rea]
          exact ⟨fun y => y.elim Or.inl (fun y => Or.inr ⟨yes, y⟩), fun y => y.elim Or.inl (fun y => Or.inr y.2)⟩
    exact loop 10 g 0 none (by omega) (by omega) (by omega) gF (fun _ _ _ => rfl) hg94 (fun r r0 r1 => by omega)
end F4
end
section
/-! found, part f5: the class's arcs, its search, its pair that tells most -/
noncomputable def clF (A B S d : Int) : Int := @ite Int (bitZ A d ∨ bitZ B d) (Classical.propDecidable _) 2 (@ite Int (bitZ S d) (Classical.propDecidable _) 0 1)
/-- through door d -/
def arcP (K : KEY) (A B d a b : Int) : Prop := (bitZ A d ∧ a = K.1 (8 * d + 5) ∧ b = K.1 (8 * d + 6)) ∨ (bitZ B d ∧ a = K.1 (8 * d + 6) ∧ b = K.1 (8 * d + 5))
/-- by the doors of the set x -/
def AEs (K : KEY) (A B x a b : Int) : Prop := ∃ d, 0 ≤ d ∧ d < K.1 1 ∧ bitZ x d ∧ arcP K A B d a b
/-- what the class's row says of the doors that let by now -/
def AIN (K : KEY) (A B : Int) (g : LH) (i : Int) : Prop := (0 ≤ rd g 91 i ∧ rd g 91 i < K.1 1) ∧ ((bitZ A (rd g 91 i) ∧ rd g 92 i = K.1 (8 * rd g 91 i + 5) ∧ rd g 93 i = K.1 (8 * rd g 91 i + 6)) ∨ (¬ bitZ A (rd g 91 i) ∧ bitZ B (rd g 91 i) ∧ rd g 92 i = K.1 (8 * rd g 91 i + 6) ∧ rd g 93 i = K.1 (8 * rd g 91 i + 5)))
def frA (h g : LH) : Prop := ∀ a i, ¬ (a = 90 ∧ (i = 4 ∨ i = 5 ∨ i = 7)) → a ≠ 91 → a ≠ 92 → a ≠ 93 → rd g a i = rd h a i
section F5
variable {xs : Nat → Int} {xl e : Nat} {h g : LH} {Q : Option LV → LH → Prop} {K : KEY} {L : List Int} {q n v1 x y A B S d a b j m r : Int} {P I : Int → Prop} {f f' : Int → Int}
theorem clF_2 : clF A B S d = 2 ↔ bitZ A d ∨ bitZ B d := by
  unfold clF
  by_cases c : bitZ A d ∨ bitZ B d
  · rw [if_pos c]
    exact ⟨fun _ => c, fun _ => rfl⟩
  · rw [if_neg c]
    by_cases s : bitZ S d
    · rw [if_pos s]
      exact ⟨fun z => absurd z (by decide), fun z => absurd z c⟩
    · rw [if_neg s]
      exact ⟨fun z => absurd z (by decide), fun z => absurd z c⟩
theorem clF_1 : clF A B S d = 1 ↔ ¬ bitZ A d ∧ ¬ bitZ B d ∧ ¬ bitZ S d := by
  unfold clF
  by_cases c : bitZ A d ∨ bitZ B d
  · rw [if_pos c]
    exact ⟨fun z => absurd z (by decide), fun z => c.elim (fun w => absurd w z.1) (fun w => absurd w z.2.1)⟩
  · rw [if_neg c]
    by_cases s : bitZ S d
    · rw [if_pos s]
      exact ⟨fun z => absurd z (by decide), fun z => absurd s z.2.2⟩
    · rw [if_neg s]
      exact ⟨fun _ => ⟨fun w => c (Or.inl w), fun w => c (Or.inr w), s⟩, fun _ => rfl⟩
theorem clF_0 : clF A B S d = 0 ↔ (¬ bitZ A d ∧ ¬ bitZ B d) ∧ bitZ S d := by
  unfold clF
  by_cases c : bitZ A d ∨ bitZ B d
  · rw [if_pos c]
    exact ⟨fun z => absurd z (by decide), fun z => c.elim (fun w => absurd w z.1.1) (fun w => absurd w z.1.2)⟩
  · rw [if_neg c]
    by_cases s : bitZ S d
    · rw [if_pos s]
      exact ⟨fun _ => ⟨⟨fun w => c (Or.inl w), fun w => c (Or.inr w)⟩, s⟩, fun _ => rfl⟩
    · rw [if_neg s]
      exact ⟨fun z => absurd z (by decide), fun z => absurd z.2 s⟩
theorem AEs_or (hK : KR K) (d0 : 0 ≤ d) (d1 : d < K.1 1) : AEs K A B (zor x (zshl 1 d)) a b ↔ AEs K A B x a b ∨ arcP K A B d a b := by
  have k1 := hK.2.1
  constructor
  · rintro ⟨t, t0, t1, tb, ta⟩
    rw [bit_or t0 (by omega), bit_shl d0 (by omega) t0 (by omega)] at tb
    rcases tb with tb | tb
    · exact Or.inl ⟨t, t0, t1, tb, ta⟩
    · rw [tb] at ta
      exact Or.inr ta
  · rintro (⟨t, t0, t1, tb, ta⟩ | ta)
    · exact ⟨t, t0, t1, (bit_or t0 (by omega)).mpr (Or.inl tb), ta⟩
    · exact ⟨d, d0, d1, (bit_or d0 (by omega)).mpr (Or.inr ((bit_shl d0 (by omega) d0 (by omega)).mpr rfl)), ta⟩
theorem AEs_EE (hK : KR K) : AEs K A B x a b ↔ EE K (zand A x) (zand B x) a b := by
  have k1 := hK.2.1
  constructor
  · rintro ⟨d, d0, d1, bx, ⟨y, z⟩ | ⟨y, z⟩⟩
    · exact ⟨d, d0, d1, Or.inl ⟨(bit_and d0 (by omega)).mpr ⟨y, bx⟩, z⟩⟩
    · exact ⟨d, d0, d1, Or.inr ⟨(bit_and d0 (by omega)).mpr ⟨y, bx⟩, z⟩⟩
  · rintro ⟨d, d0, d1, ⟨y, z⟩ | ⟨y, z⟩⟩
    · rw [bit_and d0 (by omega)] at y
      exact ⟨d, d0, d1, y.2, Or.inl ⟨y.1, z⟩⟩
    · rw [bit_and d0 (by omega)] at y
      exact ⟨d, d0, d1, y.2, Or.inr ⟨y.1, z⟩⟩
theorem AEs_agree (hd : ∀ d, 0 ≤ d → d < K.1 1 → clF A B S d = 2 → (bitZ x d ↔ bitZ y d)) : AEs K A B x a b ↔ AEs K A B y a b := by
  have cc : ∀ d, arcP K A B d a b → clF A B S d = 2 := fun d z => clF_2.mpr (z.elim (fun z => Or.inl z.1) (fun z => Or.inr z.1))
  constructor
  · rintro ⟨d, d0, d1, bx, z⟩
    exact ⟨d, d0, d1, (hd d d0 d1 (cc d z)).mp bx, z⟩
  · rintro ⟨d, d0, d1, bx, z⟩
    exact ⟨d, d0, d1, (hd d d0 d1 (cc d z)).mpr bx, z⟩
/-- what both know of the doors that let by now -/
def NOWs (h : LH) (q A B : Int) : Prop := (24 ≤ rd h 60 0 → A = 0 ∧ B = 0) ∧ (rd h 60 0 < 24 → A = zand (rd h (q + 5) (rd h 60 0)) (zxor (rd h 60 1) (-1)) ∧ B = zand (rd h (q + 6) (rd h 60 0)) (zxor (rd h 60 1) (-1)))
theorem NOW_ex (h : LH) (q : Int) : ∃ A B, NOWs h q A B := by
  by_cases c : rd h 60 0 < 24
  · exact ⟨_, _, fun z => by omega, fun _ => ⟨rfl, rfl⟩⟩
  · exact ⟨0, 0, fun _ => ⟨rfl, rfl⟩, fun z => by omega⟩
theorem NOW_sh (hK : KR K) (hN : NOWs h q A B) (d0 : 0 ≤ d) (d1 : d < K.1 1) (z : bitZ A d ∨ bitZ B d) : ¬ bitZ (rd h 60 1) d := by
  have k1 := hK.2.1
  by_cases c : rd h 60 0 < 24
  · obtain ⟨e1, e2⟩ := hN.2 c
    rw [e1, e2, bit_and d0 (by omega), bit_and d0 (by omega), bit_not d0 (by omega)] at z
    exact z.elim (fun z => z.2) (fun z => z.2)
  · obtain ⟨e1, e2⟩ := hN.1 (by omega)
    rw [e1, e2] at z
    exact z.elim (fun z => absurd z bit_zero) (fun z => absurd z bit_zero)
theorem NOW_one (hc : CXq h K q L) (hK : KR K) (h0 : 0 ≤ rd h 60 0) (hN : NOWs h q A B) (d0 : 0 ≤ d) (d1 : d < K.1 1) : ¬ (bitZ A d ∧ bitZ B d) := by
  rintro ⟨za, zb⟩
  by_cases c : rd h 60 0 < 24
  · obtain ⟨e1, e2⟩ := hN.2 c
    have p := CXq_ah (v1 := rd h 60 1) (s := 0) (hr := rd h 60 0) hc hK (by decide) (by omega) d0 d1
    rw [show 24 * 0 + rd h 60 0 = rd h 60 0 by omega, ← e1, ← e2] at p
    have wa := (p.1.mp za).1.1
    have wb := (p.2.mp zb).1.1
    rcases wa with w | w
    · exact absurd w (by decide)
    · rcases wb with v | v
      · exact absurd v (by decide)
      · exact w v
  · rw [(hN.1 (by omega)).1] at za
    exact bit_zero za
/-- the sets' edges, as the reference lays them -/
theorem NOW_AE (hc : CXq h K q L) (hK : KR K) (h0 : 0 ≤ rd h 60 0) (hN : NOWs h q A B) : chE K (rd h 60 0) (zor (rd h 60 1) (zxor x (-1))) a b ↔ AEs K A B x a b := by
  rw [AEs_EE hK]
  by_cases c : rd h 60 0 < 24
  · obtain ⟨e1, e2⟩ := hN.2 c
    rw [e1, e2, ← EE_chE hc hK ⟨h0, c⟩]
    have bb : ∀ {C d : Int}, 0 ≤ d → d < 32 → (bitZ (zand C (zxor (zor (rd h 60 1) (zxor x (-1))) (-1))) d ↔ bitZ (zand (zand C (zxor (rd h 60 1) (-1))) x) d) := fun {C d} d0 d1 => by
      rw [bit_and d0 d1, bit_and d0 d1, bit_and d0 d1, bit_not d0 d1, bit_not d0 d1, bit_or d0 d1, bit_not d0 d1]
      exact ⟨fun z => ⟨⟨z.1, fun w => z.2 (Or.inl w)⟩, Classical.byContradiction (fun w => z.2 (Or.inr w))⟩, fun z => ⟨z.1.1, fun w => w.elim z.1.2 (fun w => w z.2)⟩⟩
    exact EE_bits hK (fun _ d0 d1 => bb d0 d1) (fun _ d0 d1 => bb d0 d1)
  · obtain ⟨e1, e2⟩ := hN.1 (by omega)
    rw [e1, e2, ← EE_none (K := K) (x := rd h 60 0) (by omega)]
    have bb : ∀ {d : Int}, 0 ≤ d → d < 32 → (bitZ 0 d ↔ bitZ (zand 0 x) d) := fun {d} d0 d1 => by
      rw [bit_and d0 d1]
      exact ⟨fun z => absurd z bit_zero, fun z => absurd z.1 bit_zero⟩
    exact EE_bits hK (fun _ d0 d1 => bb d0 d1) (fun _ d0 d1 => bb d0 d1)
theorem arL_snoc : ∀ (m : Nat) (j : Int), arL f (m + 1) j = arL f m j ++ [f (j + (m : Int))]
  | 0, j => by
    show [f j] = [f (j + ((0 : Nat) : Int))]
    rw [show j + ((0 : Nat) : Int) = j by omega]
  | m + 1, j => by
    have ih := arL_snoc m (j + 1)
    show f j :: arL f (m + 1) (j + 1) = f j :: (arL f m (j + 1) ++ [f (j + ((m + 1 : Nat) : Int))])
    rw [ih, show j + 1 + (m : Int) = j + ((m + 1 : Nat) : Int) by omega]
theorem arL_congr : ∀ (m : Nat) (j : Int), (∀ i, j ≤ i → i < j + (m : Int) → f i = f' i) → arL f m j = arL f' m j
  | 0, _, _ => rfl
  | m + 1, j, hf => by
    show f j :: arL f m (j + 1) = f' j :: arL f' m (j + 1)
    rw [hf j (Int.le_refl _) (by omega), arL_congr m (j + 1) (fun i i0 i1 => hf i (by omega) (by omega))]
theorem F_listArcs (he : 1 ≤ e) (hc : CXq h K q L) (hK : KR K) (h0 : 0 ≤ rd h 60 0) (hN : NOWs h q A B) (k : ∀ g n, RF g → frA h g → rd g 90 7 = n → (0 ≤ n ∧ n ≤ K.1 1) → (∀ i, 0 ≤ i → i < n → AIN K A B g i) → arL (rd g 91) n.toNat 0 = upQ (clF A B (rd h 60 1)) (K.1 1).toNat → (∀ b, 0 ≤ b → b < 32 → (bitZ (rd g 90 4) b ↔ b < K.1 1 ∧ clF A B (rd h 60 1) b = 1)) → rd g 90 5 = cnP (fun d => clF A B (rd h 60 1) d = 1) (K.1 1).toNat → Q none g) : Rn xs xl e mm_Finder_listArcs 0 [some (.inr (.inr 90)), some (.inr (.inr q)), some (.inr (.inr 60)), none, none, none, none, none] [] h Q := by
  obtain ⟨hF, hP, hq, -, ⟨-, c2, -⟩, -⟩ := id hc
  have k1 := hK.2.1
  generalize eS : rd h 60 1 = S at *
  have loop : ∀ (fuel : Nat) (g : LH) (i : Int) (o6 o7 : Option LV), K.1 1 - i ≤ fuel → 0 ≤ i → i ≤ K.1 1 → RF g → frA h g → (0 ≤ rd g 90 7 ∧ rd g 90 7 ≤ i) → (∀ j, 0 ≤ j → j < rd g 90 7 → AIN K A B g j) → arL (rd g 91) (rd g 90 7).toNat 0 = upQ (clF A B S) i.toNat → i32 (rd g 90 4) → (∀ b, 0 ≤ b → b < 32 → (bitZ (rd g 90 4) b ↔ b < i ∧ clF A B S b = 1)) → Rn xs xl e mm_Finder_listArcs 42 [some (.inr (.inr 90)), some (.inr (.inr q)), some (.inr (.inr 60)), some (.inl A), some (.inl B), some (.inl i), o6, o7] [] g Q := by
    intro fuel
    have pt : ∀ g, frA h g → PT g := fun g gf => PT_fr hP (fun a i ha => gf a i (by omega) (by omega) (by omega) (by omega))
    have q2 : ∀ g, frA h g → rd g q 2 = K.1 1 := fun g gf => (gf q 2 (by omega) (by omega) (by omega) (by omega)).trans c2
    have stop : ∀ (g : LH) (i : Int) (o6 o7 : Option LV), K.1 1 ≤ i → i ≤ K.1 1 → RF g → frA h g → (0 ≤ rd g 90 7 ∧ rd g 90 7 ≤ i) → (∀ j, 0 ≤ j → j < rd g 90 7 → AIN K A B g j) → arL (rd g 91) (rd g 90 7).toNat 0 = upQ (clF A B S) i.toNat → i32 (rd g 90 4) → (∀ b, 0 ≤ b → b < 32 → (bitZ (rd g 90 4) b ↔ b < i ∧ clF A B S b = 1)) → ∃ c, c < e ∧ Rn xs xl c mm_java_lang_Integer_bitCount 0 [some (.inl (rd g 90 4))] [] g (fun r h' => Rn xs xl e mm_Finder_listArcs 208 [some (.inr (.inr 90)), some (.inr (.inr q)), some (.inr (.inr 60)), some (.inl A), some (.inl B), some (.inl i), o6, o7] (r.toList ++ [.inr (.inr 90)]) h' Q) := by
      intro g i o6 o7 c c1 gF gf g7 ga gl g4 gb
      have ei : i = K.1 1 := by omega
      rw [ei] at gl gb g7
      refine ⟨0, by omega, F_bits (m := K.1 1) (P := fun d => clF A B S d = 1) gF g4 k1 gb (B_Finder_listArcs_208 hq gF ?_)⟩
      refine k _ (rd g 90 7) (w90 (by decide +kernel) gF) (fun a i m1 m2 m3 m4 => by rw [rd_wr, if_neg (by omega)]; exact gf a i m1 m2 m3 m4) (rdw_nei (by decide)) g7 (fun j j0 j1 => ?_) ?_ (fun b b0 b1 => ?_) rdw_eq
      · have := ga j j0 j1
        unfold AIN at this ⊢
        rw [rdw_ne (by decide), rdw_ne (by decide), rdw_ne (by decide)]
        exact this
      · rw [← gl]
        exact arL_congr _ _ (fun i _ _ => rdw_ne (by decide))
      · rw [rdw_nei (by decide)]
        exact gb b b0 b1
    induction fuel with
    | zero =>
      intro g i o6 o7 hm a0 a1 gF gf g7 ga gl g4 gb
      exact B_Finder_listArcs_42 hq gF (pt g gf) ⟨a0, by omega⟩ ⟨fun c => stop g i o6 o7 (by omega) a1 gF gf g7 ga gl g4 gb, fun c => by have := q2 g gf; omega⟩
    | succ fuel ih =>
      intro g i o6 o7 hm a0 a1 gF gf g7 ga gl g4 gb
      have qq := q2 g gf
      refine B_Finder_listArcs_42 hq gF (pt g gf) ⟨a0, by omega⟩ ⟨fun c => stop g i o6 o7 (by omega) a1 gF gf g7 ga gl g4 gb, fun c => ?_⟩
      have en : (i + 1).toNat = i.toNat + 1 := by omega
      have ei : ((i.toNat : Nat) : Int) = i := Int.toNat_of_nonneg a0
      obtain ⟨d2, d3, -⟩ := CXq_d hc a0 (by omega)
      have e2 : rd g (q + 7 + i) 2 = K.1 (8 * i + 5) := (gf _ _ (by omega) (by omega) (by omega) (by omega)).trans d2
      have e3 : rd g (q + 7 + i) 3 = K.1 (8 * i + 6) := (gf _ _ (by omega) (by omega) (by omega) (by omega)).trans d3
      have e60 : rd g 60 1 = S := (gf 60 1 (by decide) (by decide) (by decide) (by decide)).trans eS
      rw [e2, e3, e60]
      have up : ∀ {b : Int}, b < i + 1 ↔ b < i ∨ b = i := by intro b; omega
      -- one arc more
      have arc : ∀ (f t : Int) (o6 o7 : Option LV), ((bitZ A i ∧ f = K.1 (8 * i + 5) ∧ t = K.1 (8 * i + 6)) ∨ (¬ bitZ A i ∧ bitZ B i ∧ f = K.1 (8 * i + 6) ∧ t = K.1 (8 * i + 5))) → Rn xs xl e mm_Finder_listArcs 42 [some (.inr (.inr 90)), some (.inr (.inr q)), some (.inr (.inr 60)), some (.inl A), some (.inl B), some (.inl (i + 1)), o6, o7] [] (wr (wr (wr (wr g 91 (rd g 90 7) i) 92 (rd g 90 7) f) 93 (rd g 90 7) t) 90 7 (rd g 90 7 + 1)) Q := by
        intro f t o6 o7 hft
        have c2i : clF A B S i = 2 := clF_2.mpr (hft.elim (fun z => Or.inl z.1) (fun z => Or.inr z.2.1))
        have wF : RF (wr (wr (wr (wr g 91 (rd g 90 7) i) 92 (rd g 90 7) f) 93 (rd g 90 7) t) 90 7 (rd g 90 7 + 1)) := w90 (by decide +kernel) (RF_wn (hav_nr (by decide +kernel) _) (RF_wn (hav_nr (by decide +kernel) _) (RF_wn (hav_nr (by decide +kernel) _) gF)))
        have w7 : rd (wr (wr (wr (wr g 91 (rd g 90 7) i) 92 (rd g 90 7) f) 93 (rd g 90 7) t) 90 7 (rd g 90 7 + 1)) 90 7 = rd g 90 7 + 1 := rdw_eq
        have w4 : rd (wr (wr (wr (wr g 91 (rd g 90 7) i) 92 (rd g 90 7) f) 93 (rd g 90 7) t) 90 7 (rd g 90 7 + 1)) 90 4 = rd g 90 4 := by rw [rdw_nei (by decide), rdw_ne (by decide), rdw_ne (by decide), rdw_ne (by decide)]
        have w1 : ∀ j, rd (wr (wr (wr (wr g 91 (rd g 90 7) i) 92 (rd g 90 7) f) 93 (rd g 90 7) t) 90 7 (rd g 90 7 + 1)) 91 j = if rd g 90 7 = j then i else rd g 91 j := fun j => by
          rw [rdw_ne (by decide), rdw_ne (by decide), rdw_ne (by decide), rd_wr]
          by_cases z : rd g 90 7 = j
          · rw [if_pos ⟨rfl, z⟩, if_pos z]
          · rw [if_neg (fun y => z y.2), if_neg z]
        have w2 : ∀ j, rd (wr (wr (wr (wr g 91 (rd g 90 7) i) 92 (rd g 90 7) f) 93 (rd g 90 7) t) 90 7 (rd g 90 7 + 1)) 92 j = if rd g 90 7 = j then f else rd g 92 j := fun j => by
          rw [rdw_ne (by decide), rdw_ne (by decide), rd_wr]
          by_cases z : rd g 90 7 = j
          · rw [if_pos ⟨rfl, z⟩, if_pos z]
          · rw [if_neg (fun y => z y.2), if_neg z, rdw_ne (by decide)]
        have w3 : ∀ j, rd (wr (wr (wr (wr g 91 (rd g 90 7) i) 92 (rd g 90 7) f) 93 (rd g 90 7) t) 90 7 (rd g 90 7 + 1)) 93 j = if rd g 90 7 = j then t else rd g 93 j := fun j => by
          rw [rdw_ne (by decide), rd_wr]
          by_cases z : rd g 90 7 = j
          · rw [if_pos ⟨rfl, z⟩, if_pos z]
          · rw [if_neg (fun y => z y.2), if_neg z, rdw_ne (by decide), rdw_ne (by decide)]
        have wf : frA h (wr (wr (wr (wr g 91 (rd g 90 7) i) 92 (rd g 90 7) f) 93 (rd g 90 7) t) 90 7 (rd g 90 7 + 1)) := fun a j m1 m2 m3 m4 => by
          rw [rd_wr, if_neg (by omega), rdw_ne (fun z => m4 z.symm), rdw_ne (fun z => m3 z.symm), rdw_ne (fun z => m2 z.symm)]
          exact gf a j m1 m2 m3 m4
        generalize wr (wr (wr (wr g 91 (rd g 90 7) i) 92 (rd g 90 7) f) 93 (rd g 90 7) t) 90 7 (rd g 90 7 + 1) = w at *
        refine ih w (i + 1) o6 o7 (by omega) (by omega) (by omega) wF wf (by omega) (fun j j0 j1 => ?_) ?_ (by rw [w4]; exact g4) (fun b b0 b1 => ?_)
        · unfold AIN
          rw [w1, w2, w3]
          by_cases z : rd g 90 7 = j
          · rw [if_pos z, if_pos z, if_pos z]
            exact ⟨⟨a0, by omega⟩, hft⟩
          · rw [if_neg z, if_neg z, if_neg z]
            exact ga j j0 (by omega)
        · rw [w7, show (rd g 90 7 + 1).toNat = (rd g 90 7).toNat + 1 by omega, arL_snoc, en, upA_s, ei, if_pos c2i, ← gl, w1, if_pos (by omega)]
          congr 1
          exact arL_congr _ _ (fun j j0 j1 => by rw [w1, if_neg (by omega)])
        · rw [w4, gb b b0 b1, up]
          exact ⟨fun z => ⟨Or.inl z.1, z.2⟩, fun z => z.1.elim (fun w => ⟨w, z.2⟩) (fun w => by rw [w] at z; omega)⟩
      -- no arc
      have non : ∀ (w : LH) (o6 o7 : Option LV), RF w → frA h w → (∀ a j, ¬ (a = 90 ∧ j = 4) → rd w a j = rd g a j) → ¬ bitZ A i → ¬ bitZ B i → i32 (rd w 90 4) → (∀ b, 0 ≤ b → b < 32 → (bitZ (rd w 90 4) b ↔ b < i + 1 ∧ clF A B S b = 1)) → Rn xs xl e mm_Finder_listArcs 42 [some (.inr (.inr 90)), some (.inr (.inr q)), some (.inr (.inr 60)), some (.inl A), some (.inl B), some (.inl (i + 1)), o6, o7] [] w Q := by
        intro w o6 o7 wF wf ws na nb w4 wb
        have w7 : rd w 90 7 = rd g 90 7 := ws 90 7 (by omega)
        have e91 : rd w 91 = rd g 91 := funext (fun j => ws 91 j (by omega))
        refine ih w (i + 1) o6 o7 (by omega) (by omega) (by omega) wF wf (by omega) (fun j j0 j1 => ?_) ?_ w4 wb
        · have := ga j j0 (by omega)
          unfold AIN at this ⊢
          rw [ws 91 j (by omega), ws 92 j (by omega), ws 93 j (by omega)]
          exact this
        · rw [w7, e91, gl, en, upA_s, ei, if_neg (fun z => (clF_2.mp z).elim na nb)]
      refine ⟨⟨a0, by omega⟩, fun za => ⟨fun zb => ⟨fun zs => ?_, fun zs => ?_⟩, fun zb => ⟨by omega, by omega, by omega, by omega, ?_⟩⟩, fun za => ⟨by omega, by omega, by omega, by omega, ?_⟩⟩
      · have s1 : bitZ S i := Classical.byContradiction (fun y => zs (bitZ_n.mp y))
        refine non g _ _ gF gf (fun _ _ _ => rfl) (bitZ_n.mpr za) (bitZ_n.mpr zb) g4 (fun b b0 b1 => ?_)
        rw [gb b b0 b1, up]
        exact ⟨fun z => ⟨Or.inl z.1, z.2⟩, fun z => z.1.elim (fun w => ⟨w, z.2⟩) (fun w => by
          have y := z.2
          rw [w] at y
          exact absurd s1 (clF_1.mp y).2.2)⟩
      · refine non _ _ _ (w90 (by decide +kernel) gF) (fun a j m1 m2 m3 m4 => by rw [rd_wr, if_neg (by omega)]; exact gf a j m1 m2 m3 m4) (fun a j m => by rw [rd_wr, if_neg (by omega)]) (bitZ_n.mpr za) (bitZ_n.mpr zb) (by rw [rdw_eq]; exact zor_i _ _) (fun b b0 b1 => ?_)
        rw [rdw_eq, bit_or b0 b1, bit_shl a0 (by omega) b0 b1, gb b b0 b1, up]
        constructor
        · rintro (z | z)
          · exact ⟨Or.inl z.1, z.2⟩
          · rw [z]
            exact ⟨Or.inr rfl, clF_1.mpr ⟨bitZ_n.mpr za, bitZ_n.mpr zb, bitZ_n.mpr zs⟩⟩
        · rintro ⟨z | z, w⟩
          · exact Or.inl ⟨z, w⟩
          · exact Or.inr z
      · exact arc _ _ _ _ (Or.inr ⟨bitZ_n.mpr za, Classical.byContradiction (fun y => zb (bitZ_n.mp y)), rfl, rfl⟩)
      · exact arc _ _ _ _ (Or.inl ⟨Classical.byContradiction (fun y => za (bitZ_n.mp y)), rfl, rfl⟩)
  have start : ∀ A' B', A' = A → B' = B → Rn xs xl e mm_Finder_listArcs 42 [some (.inr (.inr 90)), some (.inr (.inr q)), some (.inr (.inr 60)), some (.inl A'), some (.inl B'), some (.inl 0), none, none] [] (wr (wr h 90 7 0) 90 4 0) Q := fun A' B' ea eb => by
    rw [ea, eb]
    have w7 : rd (wr (wr h 90 7 0) 90 4 0) 90 7 = 0 := by rw [rdw_nei (by decide), rdw_eq]
    have w4 : rd (wr (wr h 90 7 0) 90 4 0) 90 4 = 0 := rdw_eq
    refine loop (K.1 1).toNat _ 0 none none (by omega) (by omega) (by omega) (w90 (by decide +kernel) (w90 (by decide +kernel) hF)) (fun a i m1 m2 m3 m4 => by rw [rd_wr, if_neg (by omega), rd_wr, if_neg (by omega)]) (by omega) (fun j j0 j1 => by omega) ?_ (by rw [w4]; exact z32) (fun b b0 b1 => ?_)
    · rw [w7]
      rfl
    · rw [w4]
      exact ⟨fun z => absurd z bit_zero, fun z => by omega⟩
  refine B_Finder_listArcs_0 hq hF he ⟨fun c => ?_, fun c => ⟨by omega, by omega, by omega, by omega, ?_⟩⟩
  · obtain ⟨ea, eb⟩ := hN.1 c
    exact start 0 0 ea.symm eb.symm
  · obtain ⟨ea, eb⟩ := hN.2 c
    exact start _ _ ea.symm eb.symm
theorem F_fill95 (hF : RF h) (k : ∀ g, RF g → (∀ a i, a ≠ 95 → rd g a i = rd h a i) → (∀ i, 0 ≤ i → i < 100 → rd g 95 i = 0) → Q none g) : Rn xs xl e mm_java_util_Arrays_fill 0 [some (.inr (.inr 95)), some (.inl 0), none, none] [] h Q := by
  have loop : ∀ (m : Nat) (g : LH) (j : Int), 100 - j ≤ m → 0 ≤ j → j ≤ 100 → RF g → (∀ a i, a ≠ 95 → rd g a i = rd h a i) → (∀ i, 0 ≤ i → i < j → rd g 95 i = 0) → Rn xs xl e mm_java_util_Arrays_fill 5 [some (.inr (.inr 95)), some (.inl 0), some (.inl j), some (.inl 100)] [] g Q := by
    intro m
    induction m with
    | zero =>
      intro g j hm j0 j1 gF gf gv
      exact B_fill95_5 gF ⟨j0, j1⟩ ⟨fun _ => k g gF gf (fun i i0 i1 => gv i i0 (by omega)), fun c => by omega⟩
    | succ m ih =>
      intro g j hm j0 j1 gF gf gv
      refine B_fill95_5 gF ⟨j0, j1⟩ ⟨fun _ => k g gF gf (fun i i0 i1 => gv i i0 (by omega)), fun c => ⟨by omega, ih _ (j + 1) (by omega) (by omega) (by omega) (w95 gF) (fun a i n => (rdw_ne (fun z => n z.symm)).trans (gf a i n)) (fun i i0 i1 => ?_)⟩⟩
      by_cases z : i = j
      · rw [z, rdw_eq]
      · rw [rdw_nei (fun y => z y.symm)]
        exact gv i i0 (by omega)
  exact B_fill95_0 hF (loop 100 h 0 (by omega) (by omega) (by omega) hF (fun _ _ _ => rfl) (fun i i0 i1 => by omega))
theorem isT_more {N N' n m r w : Int} {cn : Int → Int} (h : isT N n m cn r w) (hN : N ≤ N') (hv : ∀ k, N ≤ k → k < N' → ¬ vld n k) : isT N' n m cn r w := by
  rcases h with ⟨a, b, c⟩ | ⟨a, b, c, d, f⟩
  · refine Or.inl ⟨a, b, fun k k0 k1 v => ?_⟩
    by_cases z : k < N
    · exact c k k0 z v
    · exact absurd v (hv k (by omega) k1)
  · refine Or.inr ⟨by omega, b, c, d, fun k k0 k1 v => ?_⟩
    by_cases z : k < N
    · exact f k k0 z v
    · exact absurd v (hv k (by omega) k1)
theorem F_tellingPair (hF : RF h) (n0 : 0 ≤ n ∧ n ≤ 10) (em : rd h 90 0 = m) (m0 : 0 ≤ m ∧ m ≤ 100000) (hB : ∀ k, 0 ≤ k → k < 100 → 0 ≤ rd h 95 k ∧ rd h 95 k ≤ 100000) (k : ∀ r w, isT 100 n m (rd h 95) r w → Q (some (.inl r)) h) : Rn xs xl e mm_Finder_tellingPair 0 [some (.inr (.inr 90)), some (.inl n), none, none, none, none, none, none] [] h Q := by
  have outer : ∀ (fuel : Nat) (v2 v3 v4 : Int) (o5 o6 o7 : Option LV), n - v4 ≤ fuel → 0 ≤ v4 → v4 ≤ n → isT (10 * v4) n m (rd h 95) v2 v3 → Rn xs xl e mm_Finder_tellingPair 7 [some (.inr (.inr 90)), some (.inl n), some (.inl v2), some (.inl v3), some (.inl v4), o5, o6, o7] [] h Q := by
    intro fuel
    have stop : ∀ (v2 v3 v4 : Int), n ≤ v4 → v4 ≤ n → isT (10 * v4) n m (rd h 95) v2 v3 → Q (some (.inl v2)) h := fun v2 v3 v4 c c1 t => k v2 v3 (isT_more t (by omega) (fun k k0 k1 v => by
      have := v.1
      omega))
    induction fuel with
    | zero =>
      intro v2 v3 v4 o5 o6 o7 hm a0 a1 t
      exact B_Finder_tellingPair_7 hF n0 ⟨a0, by omega⟩ ⟨fun c => stop v2 v3 v4 c a1 t, fun c => by omega⟩
    | succ fuel ih =>
      intro v2 v3 v4 o5 o6 o7 hm a0 a1 t
      refine B_Finder_tellingPair_7 hF n0 ⟨a0, by omega⟩ ⟨fun c => stop v2 v3 v4 c a1 t, fun c => ?_⟩
      have inner : ∀ (fu : Nat) (v2 v3 v5 : Int) (o6 o7 : Option LV), n - v5 ≤ fu → 0 ≤ v5 → v5 ≤ n → isT (10 * v4 + v5) n m (rd h 95) v2 v3 → Rn xs xl e mm_Finder_tellingPair 16 [some (.inr (.inr 90)), some (.inl n), some (.inl v2), some (.inl v3), some (.inl v4), some (.inl v5), o6, o7] [] h Q := by
        intro fu
        have next : ∀ (v2 v3 v5 : Int) (o6 o7 : Option LV), n ≤ v5 → v5 ≤ n → isT (10 * v4 + v5) n m (rd h 95) v2 v3 → Rn xs xl e mm_Finder_tellingPair 7 [some (.inr (.inr 90)), some (.inl n), some (.inl v2), some (.inl v3), some (.inl (v4 + 1)), some (.inl v5), o6, o7] [] h Q := fun v2 v3 v5 o6 o7 c2 c3 s => ih v2 v3 (v4 + 1) _ _ _ (by omega) (by omega) (by omega) (isT_more s (by omega) (fun k k0 k1 v => by
          have := v.2.1
          omega))
        induction fu with
        | zero =>
          intro v2 v3 v5 o6 o7 hm2 b0 b1 s
          exact B_Finder_tellingPair_16 hF n0 ⟨a0, by omega⟩ ⟨b0, by omega⟩ ⟨fun c2 => next v2 v3 v5 o6 o7 c2 b1 s, fun c2 => by omega⟩
        | succ fu im =>
          intro v2 v3 v5 o6 o7 hm2 b0 b1 s
          refine B_Finder_tellingPair_16 hF n0 ⟨a0, by omega⟩ ⟨b0, by omega⟩ ⟨fun c2 => next v2 v3 v5 o6 o7 c2 b1 s, fun c2 => ?_⟩
          have bd := hB (10 * v4 + v5) (by omega) (by omega)
          rw [em]
          refine ⟨by omega, by omega, fun m3 hm3 => ?_⟩
          have el : m3 = lsr m (rd h 95 (10 * v4 + v5)) := by
            unfold lsr
            split <;> omega
          have st := isT_st (N := 10 * v4 + v5) (by omega) s el
          have vv : vld n (10 * v4 + v5) ↔ v4 ≠ v5 := by
            unfold vld
            omega
          rw [vv, show 10 * v4 + v5 + 1 = 10 * v4 + (v5 + 1) by omega] at st
          refine ⟨fun z => im v2 v3 (v5 + 1) _ _ (by omega) (by omega) (by omega) (st.1 (Or.inl (fun y => y z))), fun z => ⟨fun z2 => im v2 v3 (v5 + 1) _ _ (by omega) (by omega) (by omega) (st.1 (Or.inr z2)), fun z2 => im _ _ (v5 + 1) _ _ (by omega) (by omega) (by omega) (st.2 z z2)⟩⟩
      exact inner n.toNat v2 v3 0 o6 o7 (by omega) (by omega) (by omega) (by rw [Int.add_zero]; exact t)
  exact B_Finder_tellingPair_0 hF (outer n.toNat (-1) 0 0 none none none (by omega) (by omega) (by omega) (Or.inl ⟨rfl, rfl, fun k k0 k1 => by omega⟩))
end F5
end
section
/-! found, part f6: the class's found -/
def FEs (K : KEY) (hr S x a b : Int) : Prop := chE K hr (zor S (zxor x (-1))) a b
def fitT (K : KEY) (T : Int → Int) (x : Int) : Prop := ∀ k, 0 ≤ k → k < T 34 → (Rea (FEs K (T 0) (T 1) x) (T (3 * k + 35)) (T (3 * k + 36)) ↔ T (3 * k + 37) = 1)
def PfT (K : KEY) (T : Int → Int) (x : Int) : Prop := GS (K.1 1) (T 1) x ∧ fitT K T x
def RfT (K : KEY) (T : Int → Int) (x a b : Int) : Prop := Rea (FEs K (T 0) (T 1) x) a b
noncomputable def tauT (K : KEY) (T : Int → Int) : Int → Int := foR (PfT K T) (RfT K T) (st0 (zshl 1 (K.1 1) - 1)) (zshl 1 (K.1 1)).toNat
def fdA (K : KEY) (T : Int → Int) (v r : Int) : Prop := (tauT K T 0 = 0 ∧ r = -1) ∨ (tauT K T 0 ≠ 0 ∧ ((v = 0 ∧ r = tauT K T 0) ∨ (v = 1 ∧ r = tauT K T 1) ∨ (v = 2 ∧ r = tauT K T 2) ∨ (v = 3 ∧ ∃ w, isT 100 (K.1 0) (tauT K T 0) (fun k => tauT K T (k + 10)) r w) ∨ (v = 4 ∧ r = tauT K T 3)))
def frFd (h g : LH) : Prop := ∀ a i, ¬ (90 ≤ a ∧ a ≤ 95) → rd g a i = rd h a i
def fdJ (v1 : Int) (h g : LH) (r : Int) : Prop := frFd h g ∧ ((¬ (0 ≤ v1 ∧ v1 ≤ 4) ∧ r = -1) ∨ ((0 ≤ v1 ∧ v1 ≤ 4) ∧ fdA (key h) (rd h 198) v1 r))
/-- the walks of the class are those of T -/
def WLT (h : LH) (T : Int → Int) : Prop := rd h 59 4 = T 34 ∧ (0 ≤ T 34 ∧ T 34 ≤ 10) ∧ ∀ k, 0 ≤ k → k < T 34 → rd h 65 k = T (3 * k + 35) ∧ rd h 66 k = T (3 * k + 36) ∧ bt (rd h 59 7) k (T (3 * k + 37)) ∧ (0 ≤ T (3 * k + 35) ∧ T (3 * k + 35) ≤ 9) ∧ (0 ≤ T (3 * k + 36) ∧ T (3 * k + 36) ≤ 9)
section F6
variable {xs : Nat → Int} {xl e : Nat} {h g : LH} {Q : Option LV → LH → Prop} {K : KEY} {L : List Int} {T cl : Int → Int} {q n v1 v3 x y A B r : Int}
theorem dbl_0 : ∀ k : Nat, dbl k 0 = 0
  | 0 => rfl
  | k + 1 => by
    show 2 * dbl k 0 = 0
    rw [dbl_0 k]
    rfl
theorem dbl_pos (hx : 0 < x) : ∀ k : Nat, 0 < dbl k x
  | 0 => hx
  | k + 1 => by
    have := dbl_pos hx k
    show 0 < 2 * dbl k x
    omega
theorem st0_ok (m : Int) : SOK (st0 m) 0 := ⟨⟨Int.le_refl _, Int.le_refl _⟩, ⟨Int.le_refl _, by show (-1 : Int) < 16384; decide⟩, fun k k0 _ => by
  unfold st0
  rw [if_neg (by omega), if_neg (by omega)]
  exact ⟨Int.le_refl _, Int.le_refl _⟩⟩
theorem H_now (hc : CXq h K q L) (hK : KR K) (h60 : rd h 60 0 = T 0 ∧ rd h 60 1 = T 1) (T0 : 0 ≤ T 0) (hN : NOWs h q A B) : (∀ x a b, FEs K (T 0) (T 1) x a b ↔ AEs K A B x a b) ∧ FHY (K.1 1) (T 1) (clF A B (T 1)) (fitT K T) (RfT K T) (PfT K T) := by
  have k1 := hK.2.1
  have ae : ∀ x a b, FEs K (T 0) (T 1) x a b ↔ AEs K A B x a b := fun x a b => by
    have := NOW_AE (x := x) (a := a) (b := b) hc hK (by rw [h60.1]; exact T0) hN
    rw [h60.1, h60.2] at this
    exact this
  have ag : ∀ x y, (∀ d, 0 ≤ d → d < K.1 1 → clF A B (T 1) d = 2 → (bitZ x d ↔ bitZ y d)) → ∀ a b, Rea (FEs K (T 0) (T 1) x) a b ↔ Rea (FEs K (T 0) (T 1) y) a b := fun x y hd a b => Rea_iff (fun a b => by
    rw [ae, ae]
    exact AEs_agree hd)
  refine ⟨ae, k1, fun d d0 d1 => ?_, fun x => Iff.rfl, fun x y hd => ⟨?_, ag x y hd⟩⟩
  · by_cases c : bitZ A d ∨ bitZ B d
    · have := NOW_sh hK hN d0 d1 c
      rw [h60.2] at this
      exact Or.inr (Or.inr ⟨clF_2.mpr c, this⟩)
    · have na : ¬ bitZ A d := fun z => c (Or.inl z)
      have nb : ¬ bitZ B d := fun z => c (Or.inr z)
      by_cases s : bitZ (T 1) d
      · exact Or.inl ⟨clF_0.mpr ⟨⟨na, nb⟩, s⟩, s⟩
      · exact Or.inr (Or.inl ⟨clF_1.mpr ⟨na, nb, s⟩, s⟩)
  · unfold fitT
    constructor
    · intro z k k0 k1
      rw [← ag x y hd]
      exact z k k0 k1
    · intro z k k0 k1
      rw [ag x y hd]
      exact z k k0 k1
theorem F_search (he : 20 ≤ e) (hc : CXq h K q L) (hK : KR K) (h60 : rd h 60 0 = T 0 ∧ rd h 60 1 = T 1) (T0 : 0 ≤ T 0) (hW : WLT h T) (fl : v3 = 0 ∨ v3 = 1) (k : ∀ g cl σ, RF g → frFd h g → σ = foT (PfT K T) (RfT K T) (upQ cl (K.1 1).toNat) 0 (st0 16383) → FHY (K.1 1) (T 1) cl (fitT K T) (RfT K T) (PfT K T) → AGC g σ → rd g 90 6 = v3 → SOK σ 16384 → (∀ b, 0 ≤ b → b < 32 → (bitZ (rd g 90 4) b ↔ b < K.1 1 ∧ cl b = 1)) → rd g 90 5 = cnP (fun d => cl d = 1) (K.1 1).toNat → Q none g) : Rn xs xl e mm_Finder_search 0 [some (.inr (.inr 90)), some (.inr (.inr q)), some (.inr (.inr 59)), some (.inl v3), none] [] h Q := by
  obtain ⟨hF, hP, hq, -⟩ := id hc
  have k1 := hK.2.1
  obtain ⟨A, B, hN⟩ := NOW_ex h q
  obtain ⟨ae, H⟩ := H_now hc hK h60 T0 hN
  obtain ⟨w1, w2, w3⟩ := id hW
  have go : ∀ h1, RF h1 → (∀ a i, ¬ (a = 90 ∧ (0 ≤ i ∧ i ≤ 3 ∨ i = 6)) → rd h1 a i = rd h a i) → rd h1 90 0 = 0 → rd h1 90 1 = 16383 → rd h1 90 2 = 0 → rd h1 90 3 = -1 → rd h1 90 6 = v3 → ∃ c, c < e ∧ Rn xs xl c mm_java_util_Arrays_fill 0 [some (.inr (.inr 95)), some (.inl 0), none, none] [] h1 (fun r h' => Rn xs xl e mm_Finder_search 35 [some (.inr (.inr 90)), some (.inr (.inr q)), some (.inr (.inr 59)), some (.inl v3), none] (r.toList ++ []) h' Q) := by
    intro h1 F1 f1 z0 z1 z2 z3 z6
    refine ⟨0, by omega, F_fill95 F1 (fun g gF gf g95 => B_Finder_search_35 hq gF ?_)⟩
    have hg : ∀ a i, ¬ (a = 90 ∧ (0 ≤ i ∧ i ≤ 3 ∨ i = 6)) → a ≠ 95 → rd g a i = rd h a i := fun a i m1 m2 => (gf a i m2).trans (f1 a i m1)
    have gc : CXq g K q L := CXq_fr hc hK gF (fun a i ha => hg a i (by omega) (by omega))
    have gN : NOWs g q A B := by
      unfold NOWs at hN ⊢
      rw [hg 60 0 (by omega) (by decide), hg 60 1 (by omega) (by decide), hg (q + 5) _ (by omega) (by omega), hg (q + 6) _ (by omega) (by omega)]
      exact hN
    have g0 : rd g 60 0 = T 0 := (hg 60 0 (by omega) (by decide)).trans h60.1
    have g1 : rd g 60 1 = T 1 := (hg 60 1 (by omega) (by decide)).trans h60.2
    refine ⟨e - 1, by omega, F_listArcs (by omega) gc hK (by omega) gN (fun u n uF uf u7 un ua ul ub u5 => B_Finder_search_44 hq uF ?_)⟩
    rw [g1] at ul ub u5
    -- the first row
    have loop : ∀ (fuel : Nat) (w : LH) (v4 : Int), 10 - v4 ≤ fuel → 0 ≤ v4 → v4 ≤ 10 → RF w → (∀ a i, a ≠ 94 → rd w a i = rd u a i) → (∀ r, 0 ≤ r → r < v4 → rd w 94 r = zshl 1 r) → Rn xs xl e mm_Finder_search 47 [some (.inr (.inr 90)), some (.inr (.inr q)), some (.inr (.inr 59)), some (.inl v3), some (.inl v4)] [] w Q := by
      intro fuel
      have stop : ∀ (w : LH) (v4 : Int), 10 ≤ v4 → RF w → (∀ a i, a ≠ 94 → rd w a i = rd u a i) → (∀ r, 0 ≤ r → r < v4 → rd w 94 r = zshl 1 r) → ∃ c, c < e ∧ Rn xs xl c mm_Finder_grow 0 [some (.inr (.inr 90)), some (.inr (.inr 59)), some (.inl 0), some (.inl 0), none, none, none, none] [] w (fun r h' => Rn xs xl e mm_Finder_search 78 [some (.inr (.inr 90)), some (.inr (.inr q)), some (.inr (.inr 59)), some (.inl v3), some (.inl v4)] (r.toList ++ []) h' Q) := by
        intro w v4 c wF wf wr
        have hw : ∀ a i, ¬ (90 ≤ a ∧ a ≤ 95) → rd w a i = rd h a i := fun a i m => (wf a i (by omega)).trans ((uf a i (by omega) (by omega) (by omega) (by omega)).trans (hg a i (by omega) (by omega)))
        have u90 : ∀ i, (0 ≤ i ∧ i ≤ 3) ∨ i = 6 → rd w 90 i = rd h1 90 i := fun i hi => (wf 90 i (by decide)).trans ((uf 90 i (by omega) (by decide) (by decide) (by decide)).trans (gf 90 i (by decide)))
        have w90' : ∀ i, rd w 90 i = rd u 90 i := fun i => wf 90 i (by decide)
        have S : FDS w n (PfT K T) (fun x => FEs K (T 0) (T 1) x) (JSq (clF A B (T 1)) (K.1 1)) := by
          refine ⟨wF, ⟨(w90' 7).trans u7, by omega, by omega⟩, fun i i0 i1 => ?_, fun x hx => ?_, ?_, fun k k0 k1 => ?_⟩
          · have ai := ua i i0 i1
            unfold AIN at ai
            rw [wf 91 i (by decide), wf 92 i (by decide), wf 93 i (by decide)]
            generalize rd u 91 i = d at ai ⊢
            generalize rd u 92 i = f at ai ⊢
            generalize rd u 93 i = t at ai ⊢
            obtain ⟨d01, ai⟩ := ai
            obtain ⟨r2, r3, -⟩ := hK.2.2.2.1 d d01.1 d01.2
            have k0 := hK.1
            have ft : (0 ≤ f ∧ f ≤ 9) ∧ 0 ≤ t ∧ t ≤ 9 := by
              rcases ai with ⟨-, e1, e2⟩ | ⟨-, -, e1, e2⟩ <;> omega
            have cd : clF A B (T 1) d = 2 := clF_2.mpr (ai.elim (fun z => Or.inl z.1) (fun z => Or.inr z.2.1))
            have ap : ∀ a b, arcP K A B d a b ↔ a = f ∧ b = t := fun a b => by
              have one := NOW_one hc hK (by omega) hN d01.1 d01.2
              rcases ai with ⟨ba, e1, e2⟩ | ⟨na, bb, e1, e2⟩
              · rw [e1, e2]
                constructor
                · rintro (⟨-, z⟩ | ⟨y, -⟩)
                  · exact z
                  · exact absurd ⟨ba, y⟩ one
                · intro z
                  exact Or.inl ⟨ba, z⟩
              · rw [e1, e2]
                constructor
                · rintro (⟨y, -⟩ | ⟨-, z⟩)
                  · exact absurd y na
                  · exact z
                · intro z
                  exact Or.inr ⟨bb, z⟩
            refine ⟨by omega, ft.1, ft.2, fun x hx => ⟨JS_or k1 d ((upA_mem _ _).mpr ⟨by omega, cd⟩) x hx, fun a b => ?_⟩⟩
            show FEs K (T 0) (T 1) (zor x (zshl 1 d)) a b ↔ FEs K (T 0) (T 1) x a b ∨ (a = f ∧ b = t)
            rw [ae, ae, AEs_or hK d01.1 d01.2, ap]
          · have gx := JS_GS H hx
            have lt := GS_lt k1 gx
            have sh := sh14 k1
            refine ⟨by omega, ?_⟩
            rw [hw 59 4 (by decide), hw 59 7 (by decide), w1]
            constructor
            · rintro ⟨_, z⟩ k k0 k1
              obtain ⟨y1, y2, y3, -⟩ := w3 k k0 k1
              rw [hw 65 k (by decide), hw 66 k (by decide), y1, y2]
              refine (z k k0 k1).trans ?_
              rcases y3 with ⟨c1, c2⟩ | ⟨c1, c2⟩
              · exact ⟨fun t => by omega, fun t => absurd t c2⟩
              · exact ⟨fun _ => c2, fun _ => c1⟩
            · intro z
              refine ⟨gx, fun k k0 k1 => ?_⟩
              obtain ⟨y1, y2, y3, -⟩ := w3 k k0 k1
              have zk := z k k0 k1
              rw [hw 65 k (by decide), hw 66 k (by decide), y1, y2] at zk
              refine zk.trans ?_
              rcases y3 with ⟨c1, c2⟩ | ⟨c1, c2⟩
              · exact ⟨fun t => absurd t c2, fun t => by omega⟩
              · exact ⟨fun _ => c1, fun _ => c2⟩
          · rw [hw 59 4 (by decide), w1]
            exact w2
          · rw [hw 59 4 (by decide), w1] at k1
            obtain ⟨y1, y2, -, y4, y5⟩ := w3 k k0 k1
            rw [hw 65 k (by decide), hw 66 k (by decide), y1, y2]
            exact ⟨y4, y5⟩
        have R0 : RWS w (fun x => FEs K (T 0) (T 1) x) 0 0 := fun r r0 r1 b b0 b1 => by
          rw [show 10 * (0 : Int) + r = r by omega, wr r r0 (by omega), bit_shl r0 (by omega) b0 b1]
          constructor
          · intro z
            rw [z]
            exact Rea_refl
          · intro z
            refine Rea_min (X := fun b => b = r) rfl (fun x y _ ee => ?_) z
            obtain ⟨d, -, -, bd, -⟩ := (ae 0 x y).mp ee
            exact absurd bd bit_zero
        have A0 : AGC w (st0 16383) := by
          refine ⟨⟨?_, ?_, ?_, ?_⟩, fun _ k k0 k1 => ?_⟩
          · rw [u90 0 (by omega), z0]; rfl
          · rw [u90 1 (by omega), z1]; rfl
          · rw [u90 2 (by omega), z2]; rfl
          · rw [u90 3 (by omega), z3]; rfl
          · rw [wf 95 k (by decide), uf 95 k (by omega) (by decide) (by decide) (by decide), g95 k k0 k1]
            unfold st0
            rw [if_neg (by omega), if_neg (by omega)]
        have l14 := lv_14 n.toNat (by omega)
        have e91 : rd w 91 = rd u 91 := funext (fun i => wf 91 i (by decide))
        refine ⟨e - 1, by omega, F_grow (n := n) n.toNat (e - 1) 0 0 0 (st0 16383) w _ (by omega) (by omega) (by omega) S JS_0 R0 A0 (st0_ok _) (by omega) (fun y yF yf _ ya yo => B_Finder_search_78 hq yF ?_)⟩
        rw [e91, ul] at ya yo
        refine k y (clF A B (T 1)) _ yF (fun a i m => (yf a i (by omega) (by omega) (by omega)).trans (hw a i m)) rfl H ya ?_ (SOK_le yo (by omega)) (fun b b0 b1 => ?_) ?_
        · rw [yf 90 6 (by omega) (by decide) (by decide), u90 6 (Or.inr rfl), z6]
        · rw [yf 90 4 (by omega) (by decide) (by decide), w90']
          exact ub b b0 b1
        · rw [yf 90 5 (by omega) (by decide) (by decide), w90']
          exact u5
      induction fuel with
      | zero =>
        intro w v4 hm a0 a1 wF wf wr
        exact B_Finder_search_47 hq wF ⟨a0, a1⟩ ⟨fun c => stop w v4 c wF wf wr, fun c => by omega⟩
      | succ fuel ih =>
        intro w v4 hm a0 a1 wF wf wr
        refine B_Finder_search_47 hq wF ⟨a0, a1⟩ ⟨fun c => stop w v4 c wF wf wr, fun c => ih _ (v4 + 1) (by omega) (by omega) (by omega) (w94 wF) (fun a i n => (rdw_ne (fun z => n z.symm)).trans (wf a i n)) (fun r r0 r1 => ?_)⟩
        by_cases t : r = v4
        · rw [t, rdw_eq]
        · rw [rdw_nei (fun z => t z.symm)]
          exact wr r r0 (by omega)
    exact loop 10 u 0 (by omega) (by omega) (by omega) uF (fun _ _ _ => rfl) (fun r r0 r1 => by omega)
  rcases fl with e3 | e3
  · rw [e3] at go ⊢
    exact B_Finder_search_0_0 hq hF (go _ (w90 (by decide +kernel) (w90 (by decide +kernel) (w90 (by decide +kernel) (w90 (by decide +kernel) (w90 (by decide +kernel) hF))))) (fun a i m => by rw [rd_wr, if_neg (by omega), rd_wr, if_neg (by omega), rd_wr, if_neg (by omega), rd_wr, if_neg (by omega), rd_wr, if_neg (by omega)]) (by rw [rdw_nei (by decide), rdw_nei (by decide), rdw_nei (by decide), rdw_nei (by decide), rdw_eq]) (by rw [rdw_nei (by decide), rdw_nei (by decide), rdw_nei (by decide), rdw_eq]) (by rw [rdw_nei (by decide), rdw_nei (by decide), rdw_eq]) (by rw [rdw_nei (by decide), rdw_eq]) rdw_eq)
  · rw [e3] at go ⊢
    exact B_Finder_search_0_1 hq hF (go _ (w90 (by decide +kernel) (w90 (by decide +kernel) (w90 (by decide +kernel) (w90 (by decide +kernel) (w90 (by decide +kernel) hF))))) (fun a i m => by rw [rd_wr, if_neg (by omega), rd_wr, if_neg (by omega), rd_wr, if_neg (by omega), rd_wr, if_neg (by omega), rd_wr, if_neg (by omega)]) (by rw [rdw_nei (by decide), rdw_nei (by decide), rdw_nei (by decide), rdw_nei (by decide), rdw_eq]) (by rw [rdw_nei (by decide), rdw_nei (by decide), rdw_nei (by decide), rdw_eq]) (by rw [rdw_nei (by decide), rdw_nei (by decide), rdw_eq]) (by rw [rdw_nei (by decide), rdw_eq]) rdw_eq)
theorem E_foundY (he : 60 ≤ e) (hI : INV h) (hE : EQX h) (h1 : i32 v1) (k : ∀ r g, INV g → fdJ v1 h g r → Q (some (.inl r)) g) : Rn xs xl e mm_OneSided_found 0 [some (.inr (.inr 1)), some (.inl v1)] [] h Q := by
  obtain ⟨L, hc⟩ := CXq_of hI hE.1
  have hK := KR_of hI
  have hq : rd h 1 1 = 5 ∨ rd h 1 1 = 32 := rQf hI.1
  obtain ⟨-, -, -, -, ⟨c0, -, -⟩, -⟩ := id hc
  have n0 := hK.1
  have k1 := hK.2.1
  have k5 := hE.1.2.2.2.2.2.2.2.2.2.2.2.1
  have e0 : rd h 60 0 = rd h 198 0 := k5.1
  have e1 : rd h 60 1 = rd h 198 1 := k5.2.1
  have h24 := rG_60_0 hI.1
  obtain ⟨w1, w2, w3⟩ := hE.2.1.2.2.1
  rw [show (0 : Int) + 34 = 34 from rfl] at w1
  have r0 : rd h 188 0 ≤ 10 := n0.2
  have W : WLT h (rd h 198) := by
    refine ⟨w1, by omega, fun k k0 k1 => ?_⟩
    obtain ⟨y1, y2, y3, y4, y5⟩ := w3 k k0 (by omega)
    rw [show (0 : Int) + 3 * k + 35 = 3 * k + 35 by omega] at y1
    rw [show (0 : Int) + 3 * k + 36 = 3 * k + 36 by omega] at y2
    rw [show (0 : Int) + 3 * k + 37 = 3 * k + 37 by omega] at y3
    have z1 : rd h 65 k = rd h 198 (3 * k + 35) := y1
    have z2 : rd h 66 k = rd h 198 (3 * k + 36) := y2
    have z4 : 0 ≤ rd h 65 k ∧ rd h 65 k < rd h 188 0 := y4
    have z5 : 0 ≤ rd h 66 k ∧ rd h 66 k < rd h 188 0 := y5
    exact ⟨z1, z2, y3, by omega, by omega⟩
  have A : Rn xs xl e mm_OneSided_found 0 [some (.inr (.inr 1)), some (.inl v1)] [] h (fun r g => ∃ x, r = some (.inl x) ∧ fdJ v1 h g x) := by
    have no : ¬ (0 ≤ v1 ∧ v1 ≤ 4) → ∃ x, (some (.inl (-1)) : Option LV) = some (.inl x) ∧ fdJ v1 h h x := fun z => ⟨-1, rfl, fun _ _ _ => rfl, Or.inl ⟨z, rfl⟩⟩
    have fin : ∀ v3, (v3 = 0 ∨ v3 = 1) → (v1 = 3 → v3 = 1) → (0 ≤ v1 ∧ v1 ≤ 4) → ∃ c, c < e ∧ Rn xs xl c mm_Finder_search 0 [some (.inr (.inr 90)), some (.inr (.inr (rd h 1 1))), some (.inr (.inr 59)), some (.inl v3), none] [] h (fun r h' => Rn xs xl e mm_OneSided_found 36 [some (.inr (.inr 1)), some (.inl v1)] (r.toList ++ []) h' (fun r g => ∃ x, r = some (.inl x) ∧ fdJ v1 h g x)) := by
      intro v3 f3 fv hv
      refine ⟨e - 1, by omega, F_search (T := rd h 198) (by omega) hc hK ⟨e0, e1⟩ (by omega) W f3 (fun g cl σ gF gf eσ H ga g6 go gb g5 => ?_)⟩
      obtain ⟨s1, s2, s3, s4⟩ := found_same H
      rw [← eσ] at s1 s2 s3 s4
      obtain ⟨⟨a0, a1, a2, a3⟩, a4⟩ := ga
      have gQ : rd g 1 1 = rd h 1 1 := gf 1 1 (by decide)
      have t0 : tauT (key h) (rd h 198) 0 = dbl (cn1 cl (dwn ((key h).1 1).toNat)) (σ 0) := s1
      have tc : ∀ k, 0 ≤ k → k < 100 → tauT (key h) (rd h 198) (k + 10) = dbl (cn1 cl (dwn ((key h).1 1).toNat)) (σ (k + 10)) := s2
      have t3 : tauT (key h) (rd h 198) 3 = σ 3 := s4
      have sN := sh14 k1
      have tb : tauT (key h) (rd h 198) 0 ≤ 16384 := by
        have := (fR_ok (P := PfT (key h) (rd h 198)) (R := RfT (key h) (rd h 198)) (st0_ok (zshl 1 ((key h).1 1) - 1)) (zshl 1 ((key h).1 1)).toNat (by omega)).1.2
        show foR (PfT (key h) (rd h 198)) (RfT (key h) (rd h 198)) (st0 (zshl 1 ((key h).1 1) - 1)) (zshl 1 ((key h).1 1)).toNat 0 ≤ 16384
        omega
      have cc := cnP_in (fun d => cl d = 1) ((key h).1 1).toNat
      have ec := cn1_cnP (cl := cl) ((key h).1 1).toNat
      have fa : ∀ x, fdA (key h) (rd h 198) v1 x → ∃ y, (some (.inl x) : Option LV) = some (.inl y) ∧ fdJ v1 h g y := fun x hx => ⟨x, rfl, gf, Or.inr ⟨hv, hx⟩⟩
      refine B_OneSided_found_36 (q := rd h 1 1) hq gQ gF ⟨fun nz => ?_, fun z => fa _ (Or.inl ⟨?_, rfl⟩)⟩
      · rw [a0] at nz
        have o0 := go.1
        have tn : tauT (key h) (rd h 198) 0 ≠ 0 := by
          have := dbl_pos (x := σ 0) (by omega) (cn1 cl (dwn ((key h).1 1).toNat))
          omega
        obtain ⟨s5, s6⟩ := s3 nz
        have t1 : tauT (key h) (rd h 198) 1 = σ 1 := s5
        have t2 : tauT (key h) (rd h 198) 2 = zor (σ 2) (rd g 90 4) := s6 _ gb
        refine ⟨fun c => fa _ (Or.inr ⟨tn, Or.inl ⟨c, ?_⟩⟩), fun c => fa _ (Or.inr ⟨tn, Or.inr (Or.inl ⟨c, by rw [a1, t1]⟩)⟩), fun c => fa _ (Or.inr ⟨tn, Or.inr (Or.inr (Or.inl ⟨c, by rw [a2, t2]⟩))⟩), fun c => ⟨0, by omega, ?_⟩, fun c => fa _ (Or.inr ⟨tn, Or.inr (Or.inr (Or.inr (Or.inr ⟨by omega, by rw [a3, t3]⟩)))⟩)⟩
        · rw [a0, g5, ← ec, t0]
          exact zsh_dbl (by omega) o0.1 (by rw [← t0]; exact tb)
        · have g61 : rd g 90 6 ≠ 0 := by
            rw [g6, fv c]
            decide
          have eR : rd g (rd h 1 1) 0 = (key h).1 0 := (gf _ 0 (by omega)).trans c0
          rw [eR]
          have tell : ∀ r w, isT 100 ((key h).1 0) (σ 0) (rd g 95) r w → ∃ w', isT 100 ((key h).1 0) (tauT (key h) (rd h 198) 0) (fun k => tauT (key h) (rd h 198) (k + 10)) r w' := fun r w hr => by
            have hd := isT_dbl hr (cn1 cl (dwn ((key h).1 1).toNat))
            rw [← t0] at hd
            refine ⟨_, isT_congr hd (fun k k0 k1 _ => ?_)⟩
            show dbl (cn1 cl (dwn ((key h).1 1).toNat)) (rd g 95 k) = tauT (key h) (rd h 198) (k + 10)
            rw [tc k k0 k1, a4 g61 k k0 k1]
          refine F_tellingPair gF n0 a0 (by omega) (fun k k0 k1 => ?_) (fun r w hr => B_OneSided_found_134 (q := rd h 1 1) hq gQ gF (fa _ (Or.inr ⟨tn, Or.inr (Or.inr (Or.inr (Or.inl ⟨c, tell r w hr⟩)))⟩)))
          rw [a4 g61 k k0 k1]
          have := go.2.2 k k0 k1
          omega
      · rw [t0, ← a0, z, dbl_0]
    refine B_OneSided_found_0 (q := rd h 1 1) hq rfl (RF_of hI.1) ⟨fun c => no (by omega), fun b0 => ⟨fun b1 => ⟨fun c => fin 0 (Or.inl rfl) (fun z => absurd z c) ⟨b0, b1⟩, fun c => fin 1 (Or.inr rfl) (fun _ => rfl) ⟨b0, b1⟩⟩, fun c => no (by omega)⟩⟩
  have B : Rn xs xl e mm_OneSided_found 0 [some (.inr (.inr 1)), some (.inl v1)] [] h (fun r g => INV g) := use_sm TC_found (as := [.inr (.inr 1), .inl v1]) rfl (Nat.le_trans (Nat.le_of_ble_eq_true rfl) he) hI (gAr_c (g_ref 1) (gAr_c (g_i h1) gAr_n)) rfl (Nat.le_of_ble_eq_true rfl) rfl (fun r g gI gf gq => gI)
  refine (A.and B).mono (fun r g z => ?_)
  obtain ⟨⟨x, rfl, a⟩, b⟩ := z
  exact k x g b a
end F6
end
section
/-! found, part f7: the reference's found -/
def RGS (h : LH) (n : Int) (σ : Int → Int) : Prop := (rd h 182 45 = σ 0 ∧ rd h 182 46 = σ 1 ∧ rd h 182 47 = σ 2 ∧ rd h 182 48 = σ 3) ∧ ∀ k, 0 ≤ k → k < 100 → (k / 10 < n → rd h 208 k = σ (k + 10)) ∧ (n ≤ k / 10 → rd h 208 k = 0)
def frLk (h g : LH) : Prop := ∀ a i, a ≠ 196 → a ≠ 197 → a ≠ 203 → a ≠ 208 → a ≠ 209 → ¬ (a = 182 ∧ 45 ≤ i ∧ i ≤ 48) → rd g a i = rd h a i
/-- the walks told, within their bounds -/
def WKT (n : Int) (T : Int → Int) : Prop := (0 ≤ T 34 ∧ T 34 ≤ 10) ∧ ∀ k, 0 ≤ k → k < T 34 → (0 ≤ T (3 * k + 35) ∧ T (3 * k + 35) < n) ∧ (0 ≤ T (3 * k + 36) ∧ T (3 * k + 36) ≤ 9) ∧ (T (3 * k + 37) = 0 ∨ T (3 * k + 37) = 1)
section F7
variable {xs : Nat → Int} {xl e : Nat} {h g : LH} {Q : Option LV → LH → Prop} {K : KEY} {T σ : Int → Int} {n m v1 a b hr sh B r : Int}
theorem eR_chE (hK : KR K) (h0 : 0 ≤ hr) (hl : ∀ a, 0 ≤ a → a < K.1 0 → ∀ b, 0 ≤ b → b < 32 → (bitZ (rd g 203 a) b ↔ chE K hr sh a b)) : eR K g a b ↔ chE K hr sh a b := by
  have k0 := hK.1
  have k1 := hK.2.1
  constructor
  · rintro ⟨a0, b0, b1, y⟩
    exact (hl a a0.1 a0.2 b b0 b1).mp y
  · intro y
    obtain ⟨c, b0, a0, d, d0, d1, ee⟩ := id y
    have lf := LF_ok K (d := d) (s := 0) (room := a) (hr := hr) sh 0 (by omega) (by decide) (by omega) (by omega)
    have b9 : b ≤ 9 := by rw [← ee]; exact lf.1.2
    exact ⟨a0, b0, by omega, (hl a a0.1 a0.2 b b0 (by omega)).mpr y⟩
theorem frLk.trans {h1 h2 : LH} (x : frLk h h1) (y : frLk h1 h2) : frLk h h2 := fun a i m1 m2 m3 m4 m5 m6 => (y a i m1 m2 m3 m4 m5 m6).trans (x a i m1 m2 m3 m4 m5 m6)
theorem G_looks (he : 6 ≤ e) (hI : INV h) (eK : key h = K) (eT : rd h 198 = T) (T0 : 0 ≤ T 0) (tw : WKT (K.1 0) T) (x0 : 0 ≤ v1) (x1 : v1 < 16384) (gs : GS (K.1 1) (T 1) v1) (hr : RGS h (K.1 0) σ) (ho : SOK σ B) (hB : B < 100000) (lt : σ 3 < v1) (k : ∀ g, INV g → frLk h g → RGS g (K.1 0) (agS (PfT K T) (RfT K T) v1 σ) → Q none g) : Rn xs xl e mm_looks 0 [some (.inr (.inr 182)), some (.inl v1), none, none, none] [] h Q := by
  have hK : KR K := by
    rw [← eK]
    exact KR_of hI
  have k0 := hK.1
  obtain ⟨t1, t2⟩ := id tw
  obtain ⟨⟨s0, s1, s2, s3⟩, sc⟩ := id hr
  obtain ⟨o0, o3, oc⟩ := id ho
  have c0 : rd h 188 0 = K.1 0 := by
    rw [← eK]
    rfl
  refine B_looks_0 (RF_of hI.1) ⟨5, by omega, ?_⟩
  rw [eT]
  refine G_laysNow (Nat.le_refl 5) hI eK (fun u uI uf ul => B_looks_14 (RF_of uI.1) ?_)
  rw [eT] at ul
  have uK : key u = K := uf.key.trans eK
  have re : ∀ a b, eR K u a b ↔ FEs K (T 0) (T 1) v1 a b := fun a b => eR_chE hK T0 ul
  have fu : ∀ a i, a ≠ 196 → a ≠ 197 → a ≠ 203 → rd u a i = rd h a i := uf
  -- can: the rooms one by one
  have s194 : PfT K T v1 → ∀ (w : LH) (v3 : Int) (o4 : Option LV), INV w → (∀ a i, ¬ (a = 182 ∧ 45 ≤ i ∧ i ≤ 48) → a ≠ 209 → rd w a i = rd u a i) → (∀ r, 0 ≤ r → r < K.1 0 → ∀ b, 0 ≤ b → b < 32 → (bitZ (rd w 209 r) b ↔ RfT K T v1 r b)) → rd w 182 45 = σ 0 + 1 → rd w 182 46 = zand (σ 1) v1 → rd w 182 47 = zor (σ 2) v1 → rd w 182 48 = lsS (σ 3) v1 → v3 = 0 → Rn xs xl e mm_looks 194 [some (.inr (.inr 182)), some (.inl v1), some (.inl 1), some (.inl v3), o4] [] w Q := by
    intro p w v3 o4 wI wf w9 w0 w1 w2 w3 e3
    have w208 : ∀ i, rd w 208 i = rd h 208 i := fun i => (wf 208 i (by omega) (by decide)).trans (fu 208 i (by decide) (by decide) (by decide))
    have old : ∀ k, 0 ≤ k → k < 100 → 0 ≤ rd w 208 k ∧ rd w 208 k ≤ B := fun k k0 k1 => by
      rw [w208]
      have a := sc k k0 k1
      have b := oc k k0 k1
      by_cases c : k / 10 < K.1 0
      · rw [a.1 c]; exact b
      · rw [a.2 (by omega)]; omega
    have w188 : rd w 188 0 = K.1 0 := (wf 188 0 (by decide) (by decide)).trans ((fu 188 0 (by decide) (by decide) (by decide)).trans c0)
    have loop : ∀ (fuel : Nat) (y : LH) (v3 : Int), 100 - v3 ≤ fuel → 0 ≤ v3 → v3 ≤ 100 → INV y → (∀ a i, a ≠ 208 → rd y a i = rd w a i) → (∀ k, 0 ≤ k → k < 100 → (k < v3 → (k / 10 < K.1 0 → rd y 208 k = rd w 208 k + bo (RfT K T v1 (k / 10) (k % 10))) ∧ (K.1 0 ≤ k / 10 → rd y 208 k = rd w 208 k)) ∧ (v3 ≤ k → rd y 208 k = rd w 208 k)) → Rn xs xl e mm_looks 194 [some (.inr (.inr 182)), some (.inl v1), some (.inl 1), some (.inl v3), o4] [] y Q := by
      intro fuel
      have stop : ∀ (y : LH) (v3 : Int), 100 ≤ v3 → INV y → (∀ a i, a ≠ 208 → rd y a i = rd w a i) → (∀ k, 0 ≤ k → k < 100 → (k < v3 → (k / 10 < K.1 0 → rd y 208 k = rd w 208 k + bo (RfT K T v1 (k / 10) (k % 10))) ∧ (K.1 0 ≤ k / 10 → rd y 208 k = rd w 208 k)) ∧ (v3 ≤ k → rd y 208 k = rd w 208 k)) → Q none y := fun y v3 c yI yf yc => by
        refine k y yI (fun a i m1 m2 m3 m4 m5 m6 => (yf a i m4).trans ((wf a i m6 m5).trans (fu a i m1 m2 m3))) ?_
        rw [agS_y p]
        refine ⟨⟨?_, ?_, ?_, ?_⟩, fun k k0 k1 => ?_⟩
        · rw [yf _ _ (by decide), w0, agY_0]
        · rw [yf _ _ (by decide), w1, agY_1]
        · rw [yf _ _ (by decide), w2, agY_2]
        · rw [yf _ _ (by decide), w3, agY_3]
        · have a := sc k k0 k1
          have b := (yc k k0 k1).1 (by omega)
          refine ⟨fun z => ?_, fun z => ?_⟩
          · rw [b.1 z, w208, a.1 z, agY_c (by omega), show k + 10 - 10 = k by omega]
          · rw [b.2 z, w208, a.2 z]
      induction fuel with
      | zero =>
        intro y v3 hm a0 a1 yI yf yc
        exact B_looks_194 (RF_of yI.1) ⟨a0, a1⟩ (by omega) ⟨fun c => stop y v3 c yI yf yc, fun c => by omega⟩
      | succ fuel ih =>
        intro y v3 hm a0 a1 yI yf yc
        have y188 : rd y 188 0 = K.1 0 := (yf 188 0 (by decide)).trans w188
        refine B_looks_194 (RF_of yI.1) ⟨a0, a1⟩ (by omega) ⟨fun c => stop y v3 c yI yf yc, fun c => ?_⟩
        have yo := (yc v3 a0 c).2 (Int.le_refl _)
        have ob := old v3 a0 c
        have put : ∀ v : Int, (-2147483648 ≤ v ∧ v ≤ 2147483647) → (v3 / 10 < K.1 0 → v = rd w 208 v3 + bo (RfT K T v1 (v3 / 10) (v3 % 10))) → (K.1 0 ≤ v3 / 10 → v = rd w 208 v3) → Rn xs xl e mm_looks 194 [some (.inr (.inr 182)), some (.inl v1), some (.inl 1), some (.inl (v3 + 1)), o4] [] (wr y 208 v3 v) Q := fun v vb h1 h2 => ih _ (v3 + 1) (by omega) (by omega) (by omega) (wA_can yI ⟨a0, c⟩ vb.1 vb.2) (fun a i n => (rdw_ne (fun z => n z.symm)).trans (yf a i n)) (fun k k0 k1 => by
          by_cases t : k = v3
          · rw [t, rdw_eq]
            exact ⟨fun _ => ⟨h1, h2⟩, fun z => by omega⟩
          · rw [rdw_nei (fun z => t z.symm)]
            exact ⟨fun z => (yc k k0 k1).1 (by omega), fun z => (yc k k0 k1).2 (by omega)⟩)
        rw [y188]
        refine ⟨⟨a0, c⟩, fun z => ⟨by omega, ⟨a0, c⟩, put _ (by omega) (fun t => by omega) (fun _ => yo)⟩, fun z => ?_⟩
        have e9 : rd y 209 (v3 / 10) = rd w 209 (v3 / 10) := yf 209 _ (by decide)
        have bb := w9 (v3 / 10) (by omega) z (v3 % 10) (by omega) (by omega)
        rw [← e9] at bb
        refine ⟨by omega, fun t => ⟨by omega, ⟨a0, c⟩, put _ (by omega) (fun _ => ?_) (fun s => by omega)⟩, fun t => ⟨by omega, ⟨a0, c⟩, put _ (by omega) (fun _ => ?_) (fun s => by omega)⟩⟩
        · rw [bo_f (fun s => t (bb.mpr s)), yo, Int.add_zero]
        · rw [bo_t (bb.mp t), yo]
    rw [e3]
    exact loop 100 w 0 (by omega) (by omega) (by omega) wI (fun _ _ _ => rfl) (fun k k0 k1 => ⟨fun z => by omega, fun _ => rfl⟩)
  -- the closures stand
  have s45 : ∀ (w : LH), INV w → (∀ a i, a ≠ 209 → rd w a i = rd u a i) → (∀ r, 0 ≤ r → r < K.1 0 → ∀ b, 0 ≤ b → b < 32 → (bitZ (rd w 209 r) b ↔ RfT K T v1 r b)) → ∀ (fuel : Nat) (v2 v3 : Int) (o4 : Option LV), T 34 - v3 ≤ fuel → 0 ≤ v3 → v3 ≤ T 34 → (v2 = 0 ∨ v2 = 1) → (v2 = 1 ↔ ∀ k, 0 ≤ k → k < v3 → (RfT K T v1 (T (3 * k + 35)) (T (3 * k + 36)) ↔ T (3 * k + 37) = 1)) → Rn xs xl e mm_looks 45 [some (.inr (.inr 182)), some (.inl v1), some (.inl v2), some (.inl v3), o4] [] w Q := by
    intro w wI wf w9
    have wT : rd w 198 = T := by
      rw [← eT]
      exact funext (fun i => (wf 198 i (by decide)).trans (fu 198 i (by decide) (by decide) (by decide)))
    have w45 : ∀ i, rd w 182 i = rd h 182 i := fun i => (wf 182 i (by decide)).trans (fu 182 i (by decide) (by decide) (by decide))
    have w208 : ∀ i, rd w 208 i = rd h 208 i := fun i => (wf 208 i (by decide)).trans (fu 208 i (by decide) (by decide) (by decide))
    have s125 : ∀ (v2 v3 : Int) (o4 : Option LV), T 34 ≤ v3 → v3 ≤ T 34 → (v2 = 0 ∨ v2 = 1) → (v2 = 1 ↔ ∀ k, 0 ≤ k → k < v3 → (RfT K T v1 (T (3 * k + 35)) (T (3 * k + 36)) ↔ T (3 * k + 37) = 1)) → Rn xs xl e mm_looks 125 [some (.inr (.inr 182)), some (.inl v1), some (.inl v2), some (.inl v3), o4] [] w Q := by
      intro v2 v3 o4 c c1 h2 hh
      have ev : v3 = T 34 := by omega
      rw [ev] at hh
      refine B_looks_125 (RF_of wI.1) ⟨fun z => k w wI (fun a i m1 m2 m3 m4 m5 m6 => (wf a i m5).trans (fu a i m1 m2 m3)) ?_, fun z => ⟨by rw [w45, s0]; omega, ?_⟩⟩
      · have np : ¬ PfT K T v1 := fun y => by
          have := hh.mpr y.2
          omega
        rw [agS_n np]
        refine ⟨⟨by rw [w45]; exact s0, by rw [w45]; exact s1, by rw [w45]; exact s2, by rw [w45]; exact s3⟩, fun k k0 k1 => ?_⟩
        rw [w208]
        exact sc k k0 k1
      · have p : PfT K T v1 := ⟨gs, hh.mp (by omega)⟩
        have e2 : v2 = 1 := by omega
        rw [e2]
        have i1 : i32 (zand (rd w 182 46) v1) := zand_i _ _
        have i2 : i32 (zor (rd w 182 47) v1) := zor_i _ _
        unfold i32 at i1 i2
        have zI : INV (wr (wr (wr w 182 45 (rd w 182 45 + 1)) 182 46 (zand (rd w 182 46) v1)) 182 47 (zor (rd w 182 47) v1)) := wF_foundSome (wF_foundAll (wF_foundMany wI (by rw [w45, s0]; omega) (by rw [w45, s0]; omega)) (by omega) (by omega)) (by omega) (by omega)
        have z0 : rd (wr (wr (wr w 182 45 (rd w 182 45 + 1)) 182 46 (zand (rd w 182 46) v1)) 182 47 (zor (rd w 182 47) v1)) 182 45 = σ 0 + 1 := by rw [rdw_nei (by decide), rdw_nei (by decide), rdw_eq, w45, s0]
        have z1 : rd (wr (wr (wr w 182 45 (rd w 182 45 + 1)) 182 46 (zand (rd w 182 46) v1)) 182 47 (zor (rd w 182 47) v1)) 182 46 = zand (σ 1) v1 := by rw [rdw_nei (by decide), rdw_eq, w45, s1]
        have z2 : rd (wr (wr (wr w 182 45 (rd w 182 45 + 1)) 182 46 (zand (rd w 182 46) v1)) 182 47 (zor (rd w 182 47) v1)) 182 47 = zor (σ 2) v1 := by rw [rdw_eq, w45, s2]
        have z3 : rd (wr (wr (wr w 182 45 (rd w 182 45 + 1)) 182 46 (zand (rd w 182 46) v1)) 182 47 (zor (rd w 182 47) v1)) 182 48 = σ 3 := by rw [rdw_nei (by decide), rdw_nei (by decide), rdw_nei (by decide), w45, s3]
        have zf : ∀ a i, ¬ (a = 182 ∧ 45 ≤ i ∧ i ≤ 48) → rd (wr (wr (wr w 182 45 (rd w 182 45 + 1)) 182 46 (zand (rd w 182 46) v1)) 182 47 (zor (rd w 182 47) v1)) a i = rd w a i := fun a i m1 => by rw [rd_wr, if_neg (by omega), rd_wr, if_neg (by omega), rd_wr, if_neg (by omega)]
        generalize wr (wr (wr w 182 45 (rd w 182 45 + 1)) 182 46 (zand (rd w 182 46) v1)) 182 47 (zor (rd w 182 47) v1) = z at *
        have put : ∀ (v : Int) (v3' : Int), v = lsS (σ 3) v1 → v3' = 0 → Rn xs xl e mm_looks 194 [some (.inr (.inr 182)), some (.inl v1), some (.inl 1), some (.inl v3'), o4] [] (wr z 182 48 v) Q := fun v v3' hv h3 => by
          have vb : -1 ≤ v ∧ v < 16384 := by
            rw [hv]
            by_cases t : σ 3 < 0 ∨ pcP v1 14 < pcP (σ 3) 14 ∨ (pcP v1 14 = pcP (σ 3) 14 ∧ v1 < σ 3)
            · rw [lsS_y t]; omega
            · rw [lsS_n t]; omega
          refine s194 p _ v3' o4 (wF_foundLeast zI (by omega) (by omega)) (fun a i m1 m2 => ?_) (fun r r0 r1 b b0 b1 => ?_) (by rw [rdw_nei (by decide)]; exact z0) (by rw [rdw_nei (by decide)]; exact z1) (by rw [rdw_nei (by decide)]; exact z2) (by rw [rdw_eq]; exact hv) h3
          · rw [rd_wr, if_neg (by omega), zf a i m1]
            exact wf a i m2
          · rw [rdw_ne (by decide), zf 209 r (by omega)]
            exact w9 r r0 r1 b b0 b1
        refine B_looks_159 (RF_of zI.1) ⟨fun c => put v1 0 (lsS_y (Or.inl (by omega))).symm rfl, fun c => ⟨0, by omega, G_bits (RF_of zI.1) (B_looks_171 (RF_of zI.1) ⟨0, by omega, G_bits (RF_of zI.1) (B_looks_178 (RF_of zI.1) ⟨fun d => put _ 0 ?_ rfl, fun d => put v1 0 ?_ rfl⟩)⟩)⟩⟩
        · rw [z3] at d ⊢
          exact (lsS_n (by omega)).symm
        · rw [z3] at d
          exact (lsS_y (Or.inr (Or.inl d))).symm
    intro fuel
    induction fuel with
    | zero =>
      intro v2 v3 o4 hm a0 a1 h2 hh
      refine B_looks_45 (RF_of wI.1) ⟨a0, by omega⟩ (by omega) ?_
      rw [wT]
      exact ⟨fun c => s125 v2 v3 o4 c a1 h2 hh, fun c => by omega⟩
    | succ fuel ih =>
      intro v2 v3 o4 hm a0 a1 h2 hh
      refine B_looks_45 (RF_of wI.1) ⟨a0, by omega⟩ (by omega) ?_
      rw [wT]
      refine ⟨fun c => s125 v2 v3 o4 c a1 h2 hh, fun c => ?_⟩
      obtain ⟨f1, f2, f3⟩ := t2 v3 a0 c
      have bb := w9 (T (3 * v3 + 35)) f1.1 f1.2 (T (3 * v3 + 36)) f2.1 (by omega)
      have nx : ∀ (x : Int) (o : Option LV), (x = 0 ∨ x = 1) → (x = 1 ↔ v2 = 1 ∧ (RfT K T v1 (T (3 * v3 + 35)) (T (3 * v3 + 36)) ↔ T (3 * v3 + 37) = 1)) → Rn xs xl e mm_looks 119 [some (.inr (.inr 182)), some (.inl v1), some (.inl x), some (.inl v3), o] [] w Q := fun x o hx hq => B_looks_119 (RF_of wI.1) ⟨a0, by omega⟩ (ih x (v3 + 1) o (by omega) (by omega) (by omega) hx (by
        rw [hq, hh]
        constructor
        · rintro ⟨z1, z2⟩ k k0 k1
          by_cases t : k = v3
          · rw [t]; exact z2
          · exact z1 k k0 (by omega)
        · intro z
          exact ⟨fun k k0 k1 => z k k0 (by omega), z v3 a0 (by omega)⟩))
      refine ⟨fun z => nx 0 _ (Or.inl rfl) ⟨fun y => by omega, fun y => by omega⟩, fun z => ⟨by omega, fun y => ⟨fun t => nx 1 _ (Or.inr rfl) ⟨fun _ => ⟨by omega, fun s => absurd (bb.mpr s) y, fun s => absurd s t⟩, fun _ => rfl⟩, fun t => nx 0 _ (Or.inl rfl) ⟨fun s => by omega, fun s => absurd (bb.mpr (s.2.mpr t)) y⟩⟩, fun y => ⟨fun t => nx 0 _ (Or.inl rfl) ⟨fun s => by omega, fun s => absurd (s.2.mp (bb.mp y)) t⟩, fun t => nx 1 _ (Or.inr rfl) ⟨fun _ => ⟨by omega, fun _ => t, fun _ => bb.mp y⟩, fun _ => rfl⟩⟩⟩⟩
  have loop : ∀ (fuel : Nat) (w : LH) (v3 : Int) (o4 : Option LV), K.1 0 - v3 ≤ fuel → 0 ≤ v3 → v3 ≤ K.1 0 → INV w → (∀ a i, a ≠ 209 → rd w a i = rd u a i) → (∀ r, 0 ≤ r → r < v3 → ∀ b, 0 ≤ b → b < 32 → (bitZ (rd w 209 r) b ↔ RfT K T v1 r b)) → Rn xs xl e mm_looks 18 [some (.inr (.inr 182)), some (.inl v1), some (.inl 1), some (.inl v3), o4] [] w Q := by
    intro fuel
    have f188 : ∀ w : LH, (∀ a i, a ≠ 209 → rd w a i = rd u a i) → rd w 188 0 = K.1 0 := fun w wf => (wf 188 0 (by decide)).trans ((fu 188 0 (by decide) (by decide) (by decide)).trans c0)
    have stop : ∀ (w : LH) (v3 : Int) (o4 : Option LV), K.1 0 ≤ v3 → INV w → (∀ a i, a ≠ 209 → rd w a i = rd u a i) → (∀ r, 0 ≤ r → r < v3 → ∀ b, 0 ≤ b → b < 32 → (bitZ (rd w 209 r) b ↔ RfT K T v1 r b)) → Rn xs xl e mm_looks 45 [some (.inr (.inr 182)), some (.inl v1), some (.inl 1), some (.inl 0), o4] [] w Q := fun w v3 o4 c wI wf w9 => s45 w wI wf (fun r r0 r1 => w9 r r0 (by omega)) (T 34).toNat 1 0 o4 (by omega) (by omega) (by omega) (Or.inr rfl) ⟨fun _ k k0 k1 => by omega, fun _ => rfl⟩
    induction fuel with
    | zero =>
      intro w v3 o4 hm a0 a1 wI wf w9
      have := f188 w wf
      exact B_looks_18 (RF_of wI.1) ⟨a0, by omega⟩ (by omega) ⟨fun c => stop w v3 o4 (by omega) wI wf w9, fun c => by omega⟩
    | succ fuel ih =>
      intro w v3 o4 hm a0 a1 wI wf w9
      have w188 := f188 w wf
      have wK : key w = K := (key_frs (fun a i n0 n1 => wf a i (by omega)) (fun i _ _ => wf 182 i (by decide))).trans uK
      refine B_looks_18 (RF_of wI.1) ⟨a0, by omega⟩ (by omega) ⟨fun c => stop w v3 o4 (by omega) wI wf w9, fun c => ⟨1, by omega, G_closure (Nat.le_refl 1) wI wK (by omega) (fun r r1 r2 rb => B_looks_36 (RF_of wI.1) ⟨a0, by omega⟩ ⟨by omega, ih _ (v3 + 1) o4 (by omega) (by omega) (by omega) (wA_closures wI (by omega) (by omega) (by omega)) (fun a i n => (rdw_ne (fun z => n z.symm)).trans (wf a i n)) (fun r' r0' r1' b b0 b1 => ?_)⟩)⟩⟩
      by_cases t : r' = v3
      · rw [t, rdw_eq, rb b b0 b1]
        refine Rea_iff (fun x y => ?_)
        have e3 : eR K w x y ↔ eR K u x y := by
          unfold eR
          rw [wf 203 x (by decide)]
        rw [e3]
        exact re x y
      · rw [rdw_nei (fun z => t z.symm)]
        exact w9 r' r0' (by omega) b b0 b1
  exact loop (K.1 0).toNat u 0 none (by omega) (by omega) (by omega) uI (fun _ _ _ => rfl) (fun r r0 r1 => by omega)
theorem G_tellsMost (he : 1 ≤ e) (hF : RF h) (n0 : 0 ≤ n ∧ n ≤ 10) (en : rd h 188 0 = n) (em : rd h 182 45 = m) (m0 : 0 ≤ m ∧ m ≤ 100000) (hB : ∀ k, 0 ≤ k → k < 100 → 0 ≤ rd h 208 k ∧ rd h 208 k ≤ 100000) (k : ∀ r w, isT 100 n m (rd h 208) r w → Q (some (.inl r)) h) : Rn xs xl e mm_tellsMost 0 [some (.inr (.inr 182)), none, none, none, none, none] [] h Q := by
  have loop : ∀ (fuel : Nat) (v1 v2 v3 : Int) (o4 o5 : Option LV), 100 - v3 ≤ fuel → 0 ≤ v3 → v3 ≤ 100 → isT v3 n m (rd h 208) v1 v2 → Rn xs xl e mm_tellsMost 6 [some (.inr (.inr 182)), some (.inl v1), some (.inl v2), some (.inl v3), o4, o5] [] h Q := by
    intro fuel
    have stop : ∀ (v1 v2 v3 : Int), 100 ≤ v3 → v3 ≤ 100 → isT v3 n m (rd h 208) v1 v2 → Q (some (.inl v1)) h := fun v1 v2 v3 c c1 t => by
      rw [show v3 = 100 by omega] at t
      exact k v1 v2 t
    induction fuel with
    | zero =>
      intro v1 v2 v3 o4 o5 hm a0 a1 t
      exact B_tellsMost_6 hF ⟨a0, a1⟩ he ⟨fun c => stop v1 v2 v3 c a1 t, fun c => by omega⟩
    | succ fuel ih =>
      intro v1 v2 v3 o4 o5 hm a0 a1 t
      refine B_tellsMost_6 hF ⟨a0, a1⟩ he ⟨fun c => stop v1 v2 v3 c a1 t, fun c => ?_⟩
      have bd := hB v3 a0 c
      have st := isT_st (v := lsr m (rd h 208 v3)) a0 t rfl
      rw [en, em]
      have l1 : m - rd h 208 v3 ≤ rd h 208 v3 → lsr m (rd h 208 v3) = m - rd h 208 v3 := fun z => by
        unfold lsr
        rw [if_neg (by omega)]
      have l2 : rd h 208 v3 < m - rd h 208 v3 → lsr m (rd h 208 v3) = rd h 208 v3 := fun z => by
        unfold lsr
        rw [if_pos z]
      have nx : ∀ (x y v4 v5 : Int), isT (v3 + 1) n m (rd h 208) x y → Rn xs xl e mm_tellsMost 110 [some (.inr (.inr 182)), some (.inl x), some (.inl y), some (.inl v3), some (.inl v4), some (.inl v5)] [] h Q := fun x y v4 v5 s => B_tellsMost_110 hF ⟨a0, by omega⟩ (ih x y (v3 + 1) _ _ (by omega) (by omega) (by omega) s)
      have no : ∀ (v4 v5 : Int), ¬ vld n v3 → Rn xs xl e mm_tellsMost 110 [some (.inr (.inr 182)), some (.inl v1), some (.inl v2), some (.inl v3), some (.inl v4), some (.inl v5)] [] h Q := fun v4 v5 s => nx v1 v2 v4 v5 (st.1 (Or.inl s))
      refine ⟨fun z => ⟨⟨a0, c⟩, ⟨a0, c⟩, by omega, fun y => ⟨⟨a0, c⟩, by omega, no _ _ (fun s => by have := s.1; omega)⟩, fun y => ⟨⟨a0, c⟩, no _ _ (fun s => by have := s.1; omega)⟩⟩, fun z => ⟨fun z2 => ⟨⟨a0, c⟩, ⟨a0, c⟩, by omega, fun y => ⟨⟨a0, c⟩, by omega, no _ _ (fun s => by have := s.2.1; omega)⟩, fun y => ⟨⟨a0, c⟩, no _ _ (fun s => by have := s.2.1; omega)⟩⟩, fun z2 => ⟨fun z3 => ⟨⟨a0, c⟩, ⟨a0, c⟩, by omega, fun y => ⟨⟨a0, c⟩, by omega, no _ _ (fun s => s.2.2 z3)⟩, fun y => ⟨⟨a0, c⟩, no _ _ (fun s => s.2.2 z3)⟩⟩, fun z3 => ⟨⟨a0, c⟩, ⟨a0, c⟩, by omega, fun y => ⟨⟨a0, c⟩, by omega, fun w => ?_, fun w => ?_⟩, fun y => ⟨⟨a0, c⟩, fun w => ?_, fun w => ?_⟩⟩⟩⟩⟩
      · rw [l1 y] at st
        exact nx _ _ _ _ (st.1 (Or.inr w))
      · rw [l1 y] at st
        exact nx _ _ _ _ (st.2 ⟨z, z2, z3⟩ w)
      · rw [l2 y] at st
        exact nx _ _ _ _ (st.1 (Or.inr w))
      · rw [l2 y] at st
        exact nx _ _ _ _ (st.2 ⟨z, z2, z3⟩ w)
  exact B_tellsMost_0 hF (loop 100 (-1) 0 0 none none (by omega) (by omega) (by omega) (Or.inl ⟨rfl, rfl, fun k k0 k1 => by omega⟩))
theorem G_foundY (he : 8 ≤ e) (hI : INV h) (hE : EQX h) (gI : INV g) (hj : fdJ v1 h g r) (k : ∀ g', INV g' → EQX g' → Q (some (.inl r)) g') : Rn xs xl e mm_found 0 [some (.inr (.inr 182)), some (.inl v1), none] [] g Q := by
  obtain ⟨gf, hc⟩ := hj
  have hK := KR_of hI
  have n0 := hK.1
  have k1 := hK.2.1
  have gK : key g = key h := key_frs (fun a i n0 n1 => gf a i (by omega)) (fun i _ _ => gf 182 i (by omega))
  have gT : rd g 198 = rd h 198 := funext (fun i => gf 198 i (by omega))
  have g188 : rd g 188 1 = (key h).1 1 := gf 188 1 (by omega)
  have g188' : rd g 188 0 = (key h).1 0 := gf 188 0 (by omega)
  have sN := sh14 k1
  have k5 := hE.1.2.2.2.2.2.2.2.2.2.2.2.1
  have e0 : rd h 60 0 = rd h 198 0 := k5.1
  have h24 := rG_60_0 hI.1
  obtain ⟨w1, w2, w3⟩ := hE.2.1.2.2.1
  rw [show (0 : Int) + 34 = 34 from rfl] at w1
  have tw : WKT ((key h).1 0) (rd h 198) := by
    refine ⟨by omega, fun k k0 k1 => ?_⟩
    obtain ⟨y1, y2, y3, y4, y5⟩ := w3 k k0 (by omega)
    rw [show (0 : Int) + 3 * k + 35 = 3 * k + 35 by omega] at y1
    rw [show (0 : Int) + 3 * k + 36 = 3 * k + 36 by omega] at y2
    rw [show (0 : Int) + 3 * k + 37 = 3 * k + 37 by omega] at y3
    have z1 : rd h 65 k = rd h 198 (3 * k + 35) := y1
    have z2 : rd h 66 k = rd h 198 (3 * k + 36) := y2
    have z4 : 0 ≤ rd h 65 k ∧ rd h 65 k < (key h).1 0 := y4
    have z5 : 0 ≤ rd h 66 k ∧ rd h 66 k < (key h).1 0 := y5
    exact ⟨by omega, by omega, y3.elim (fun z => Or.inl z.1) (fun z => Or.inr z.1)⟩
  -- what may have changed
  have fin : ∀ (w : LH) (x : Int), INV w → (∀ a i, a ≠ 196 → a ≠ 197 → a ≠ 203 → a ≠ 208 → a ≠ 209 → ¬ (a = 182 ∧ (i = 0 ∨ (45 ≤ i ∧ i ≤ 48))) → rd w a i = rd g a i) → x = r → Q (some (.inl x)) w := fun w x wI wf ex => by
    rw [ex]
    have f : ∀ a i, a ≠ 196 → a ≠ 197 → a ≠ 203 → a ≠ 208 → a ≠ 209 → ¬ (a = 182 ∧ (i = 0 ∨ (45 ≤ i ∧ i ≤ 48))) → ¬ (90 ≤ a ∧ a ≤ 95) → rd w a i = rd h a i := fun a i m1 m2 m3 m4 m5 m6 m7 => (wf a i m1 m2 m3 m4 m5 m6).trans (gf a i m7)
    refine k w wI (EQX_fr hI hE (f 2 0 (by decide) (by decide) (by decide) (by decide) (by decide) (by decide) (by decide)) (f 182 2 (by decide) (by decide) (by decide) (by decide) (by decide) (by decide) (by decide)) (fun a i ha => ?_))
    rcases ha with ha | ha
    · obtain ⟨y1, y2, y3, -⟩ := inK_p ha
      exact f a i (by omega) (by omega) (by omega) (by omega) (by omega) (by omega) (by omega)
    · obtain ⟨y1, y2, y3, y4, y5, y6, y7, y8, y9⟩ := inX_p ha
      exact f a i (by omega) (by omega) (by omega) (by omega) (by omega) (fun z => by have := y2 z.1; omega) (by omega)
  have no : ¬ (0 ≤ v1 ∧ v1 ≤ 4) → Q (some (.inl (-1))) (wr g 182 0 0) := fun z => fin _ (-1) (wF_thrown gI (by omega) (by omega)) (fun a i m1 m2 m3 m4 m5 m6 => by rw [rd_wr, if_neg (by omega)]) (by
    rcases hc with ⟨_, q⟩ | ⟨q, _⟩
    · exact q.symm
    · exact absurd q z)
  have i188 := shl_14 (rd g 188 1).toNat (by omega)
  rw [Int.toNat_of_nonneg (by omega)] at i188
  refine B_found_0 (RF_of gI.1) (by omega) ⟨fun c => no (by omega), fun a0 => ⟨fun c => no (by omega), fun a1 => ⟨by omega, ?_⟩⟩⟩
  have hA : fdA (key h) (rd h 198) v1 r := by
    rcases hc with ⟨z, _⟩ | ⟨_, z⟩
    · exact absurd ⟨a0, a1⟩ z
    · exact z
  rw [g188] at i188 ⊢
  have zI : INV (wr (wr (wr (wr (wr g 182 0 0) 182 45 0) 182 46 (zshl 1 ((key h).1 1) - 1)) 182 47 0) 182 48 (-1)) := wF_foundLeast (wF_foundSome (wF_foundAll (wF_foundMany (wF_thrown gI (by omega) (by omega)) (by omega) (by omega)) (by omega) (by omega)) (by omega) (by omega)) (by omega) (by omega)
  have zf : ∀ a i, ¬ (a = 182 ∧ (i = 0 ∨ (45 ≤ i ∧ i ≤ 48))) → rd (wr (wr (wr (wr (wr g 182 0 0) 182 45 0) 182 46 (zshl 1 ((key h).1 1) - 1)) 182 47 0) 182 48 (-1)) a i = rd g a i := fun a i m => by rw [rd_wr, if_neg (by omega), rd_wr, if_neg (by omega), rd_wr, if_neg (by omega), rd_wr, if_neg (by omega), rd_wr, if_neg (by omega)]
  have z0 : rd (wr (wr (wr (wr (wr g 182 0 0) 182 45 0) 182 46 (zshl 1 ((key h).1 1) - 1)) 182 47 0) 182 48 (-1)) 182 45 = 0 := by rw [rdw_nei (by decide), rdw_nei (by decide), rdw_nei (by decide), rdw_eq]
  have z1 : rd (wr (wr (wr (wr (wr g 182 0 0) 182 45 0) 182 46 (zshl 1 ((key h).1 1) - 1)) 182 47 0) 182 48 (-1)) 182 46 = zshl 1 ((key h).1 1) - 1 := by rw [rdw_nei (by decide), rdw_nei (by decide), rdw_eq]
  have z2 : rd (wr (wr (wr (wr (wr g 182 0 0) 182 45 0) 182 46 (zshl 1 ((key h).1 1) - 1)) 182 47 0) 182 48 (-1)) 182 47 = 0 := by rw [rdw_nei (by decide), rdw_eq]
  have z3 : rd (wr (wr (wr (wr (wr g 182 0 0) 182 45 0) 182 46 (zshl 1 ((key h).1 1) - 1)) 182 47 0) 182 48 (-1)) 182 48 = -1 := rdw_eq
  generalize wr (wr (wr (wr (wr g 182 0 0) 182 45 0) 182 46 (zshl 1 ((key h).1 1) - 1)) 182 47 0) 182 48 (-1) = z at *
  -- the answer
  have s98 : ∀ (w : LH) (v2 : Int), INV w → (∀ a i, a ≠ 196 → a ≠ 197 → a ≠ 203 → a ≠ 208 → a ≠ 209 → ¬ (a = 182 ∧ (i = 0 ∨ (45 ≤ i ∧ i ≤ 48))) → rd w a i = rd g a i) → RGS w ((key h).1 0) (tauT (key h) (rd h 198)) → Rn xs xl e mm_found 98 [some (.inr (.inr 182)), some (.inl v1), some (.inl v2)] [] w Q := by
    intro w v2 wI wf wr
    obtain ⟨⟨r0, r1, r2, r3⟩, rc⟩ := wr
    have go := fR_ok (P := PfT (key h) (rd h 198)) (R := RfT (key h) (rd h 198)) (st0_ok (zshl 1 ((key h).1 1) - 1)) (zshl 1 ((key h).1 1)).toNat (by omega)
    have go' : SOK (tauT (key h) (rd h 198)) ((zshl 1 ((key h).1 1)).toNat : Int) := go
    obtain ⟨b0, b3, bc⟩ := go'
    have w188 : rd w 188 0 = (key h).1 0 := (wf 188 0 (by decide) (by decide) (by decide) (by decide) (by decide) (by omega)).trans g188'
    have one : ∀ x, tauT (key h) (rd h 198) 0 ≠ 0 → ((v1 = 0 ∧ x = tauT (key h) (rd h 198) 0) ∨ (v1 = 1 ∧ x = tauT (key h) (rd h 198) 1) ∨ (v1 = 2 ∧ x = tauT (key h) (rd h 198) 2) ∨ (v1 = 3 ∧ ∃ w, isT 100 ((key h).1 0) (tauT (key h) (rd h 198) 0) (fun k => tauT (key h) (rd h 198) (k + 10)) x w) ∨ (v1 = 4 ∧ x = tauT (key h) (rd h 198) 3)) → x = r := fun x nz hx => by
      rcases hA with ⟨q, _⟩ | ⟨_, q⟩
      · exact absurd q nz
      · rcases hx with ⟨c, d⟩ | ⟨c, d⟩ | ⟨c, d⟩ | ⟨c, u, d⟩ | ⟨c, d⟩ <;> rcases q with ⟨c', d'⟩ | ⟨c', d'⟩ | ⟨c', d'⟩ | ⟨c', u', d'⟩ | ⟨c', d'⟩ <;> first | exact absurd c (by omega) | exact d.trans d'.symm | exact isT_one d d'
    refine B_found_98 (RF_of wI.1) ⟨fun nz => ?_, fun q => fin w (-1) wI wf ?_⟩
    · rw [r0] at nz
      refine ⟨fun c0 => ⟨fun c1 => ⟨fun c2 => ⟨fun c3 => fin w _ wI wf (one _ nz (Or.inr (Or.inr (Or.inr (Or.inr ⟨by omega, r3⟩))))), fun c3 => ⟨1, by omega, ?_⟩⟩, fun c2 => fin w _ wI wf (one _ nz (Or.inr (Or.inr (Or.inl ⟨c2, r2⟩))))⟩, fun c1 => fin w _ wI wf (one _ nz (Or.inr (Or.inl ⟨c1, r1⟩)))⟩, fun c0 => fin w _ wI wf (one _ nz (Or.inl ⟨c0, r0⟩))⟩
      refine G_tellsMost (Nat.le_refl 1) (RF_of wI.1) n0 w188 r0 (by omega) (fun k k0 k1 => ?_) (fun x u hx => B_found_151 (RF_of wI.1) (fin w x wI wf (one x nz (Or.inr (Or.inr (Or.inr (Or.inl ⟨c3, u, isT_congr hx (fun k k0 k1 vd => (rc k k0 k1).1 vd.1)⟩)))))))
      have a := rc k k0 k1
      have b := bc k k0 k1
      by_cases c : k / 10 < (key h).1 0
      · rw [a.1 c]
        omega
      · rw [a.2 (by omega)]
        omega
    · rw [r0] at q
      rcases hA with ⟨_, y⟩ | ⟨y, _⟩
      · exact y.symm
      · exact absurd q y
  -- set by set
  have sets : ∀ (fuel : Nat) (w : LH) (v2 : Int), zshl 1 ((key h).1 1) - v2 ≤ fuel → 0 ≤ v2 → v2 ≤ zshl 1 ((key h).1 1) → INV w → (∀ a i, a ≠ 196 → a ≠ 197 → a ≠ 203 → a ≠ 208 → a ≠ 209 → ¬ (a = 182 ∧ (i = 0 ∨ (45 ≤ i ∧ i ≤ 48))) → rd w a i = rd g a i) → RGS w ((key h).1 0) (foR (PfT (key h) (rd h 198)) (RfT (key h) (rd h 198)) (st0 (zshl 1 ((key h).1 1) - 1)) v2.toNat) → Rn xs xl e mm_found 66 [some (.inr (.inr 182)), some (.inl v1), some (.inl v2)] [] w Q := by
    intro fuel
    have f188 : ∀ w : LH, (∀ a i, a ≠ 196 → a ≠ 197 → a ≠ 203 → a ≠ 208 → a ≠ 209 → ¬ (a = 182 ∧ (i = 0 ∨ (45 ≤ i ∧ i ≤ 48))) → rd w a i = rd g a i) → rd w 188 1 = (key h).1 1 := fun w wf => (wf 188 1 (by decide) (by decide) (by decide) (by decide) (by decide) (by omega)).trans g188
    have stop : ∀ (w : LH) (v2 : Int), zshl 1 ((key h).1 1) ≤ v2 → v2 ≤ zshl 1 ((key h).1 1) → INV w → (∀ a i, a ≠ 196 → a ≠ 197 → a ≠ 203 → a ≠ 208 → a ≠ 209 → ¬ (a = 182 ∧ (i = 0 ∨ (45 ≤ i ∧ i ≤ 48))) → rd w a i = rd g a i) → RGS w ((key h).1 0) (foR (PfT (key h) (rd h 198)) (RfT (key h) (rd h 198)) (st0 (zshl 1 ((key h).1 1) - 1)) v2.toNat) → Rn xs xl e mm_found 98 [some (.inr (.inr 182)), some (.inl v1), some (.inl v2)] [] w Q := fun w v2 c c1 wI wf wr => s98 w v2 wI wf (by
      rw [show v2 = zshl 1 ((key h).1 1) by omega] at wr
      exact wr)
    induction fuel with
    | zero =>
      intro w v2 hm b0 b1 wI wf wr
      have f := f188 w wf
      refine B_found_66 (RF_of wI.1) ⟨b0, by omega⟩ (by omega) ?_
      rw [f]
      exact ⟨fun c => stop w v2 c b1 wI wf wr, fun c => by omega⟩
    | succ fuel ih =>
      intro w v2 hm b0 b1 wI wf wr
      have f := f188 w wf
      have wT : rd w 198 = rd h 198 := (funext (fun i => wf 198 i (by decide) (by decide) (by decide) (by decide) (by decide) (by omega))).trans gT
      refine B_found_66 (RF_of wI.1) ⟨b0, by omega⟩ (by omega) ?_
      rw [f, wT]
      have ex : ((v2.toNat : Nat) : Int) = v2 := Int.toNat_of_nonneg b0
      have en : (v2 + 1).toNat = v2.toNat + 1 := by omega
      refine ⟨fun c => stop w v2 c b1 wI wf wr, fun c => ⟨fun q => ih w (v2 + 1) (by omega) (by omega) (by omega) wI wf ?_, fun q => ⟨7, by omega, ?_⟩⟩⟩
      · have np : ¬ PfT (key h) (rd h 198) v2 := fun y => q (GS_and y.1)
        rw [en]
        show RGS w ((key h).1 0) (agS (PfT (key h) (rd h 198)) (RfT (key h) (rd h 198)) ((v2.toNat : Nat) : Int) (foR (PfT (key h) (rd h 198)) (RfT (key h) (rd h 198)) (st0 (zshl 1 ((key h).1 1) - 1)) v2.toNat))
        rw [ex, agS_n np]
        exact wr
      · have gs := lt_GS k1 b0 c q
        have wK : key w = key h := (key_frs (fun a i n0 n1 => wf a i (by omega) (by omega) (by omega) (by omega) (by omega) (by omega)) (fun i i0 i1 => wf 182 i (by decide) (by decide) (by decide) (by decide) (by decide) (by omega))).trans gK
        have go := fR_ok (P := PfT (key h) (rd h 198)) (R := RfT (key h) (rd h 198)) (st0_ok (zshl 1 ((key h).1 1) - 1)) v2.toNat (by omega)
        have lt : foR (PfT (key h) (rd h 198)) (RfT (key h) (rd h 198)) (st0 (zshl 1 ((key h).1 1) - 1)) v2.toNat 3 < v2 := by
          have s := fR_3 (P := PfT (key h) (rd h 198)) (R := RfT (key h) (rd h 198)) (σ := st0 (zshl 1 ((key h).1 1) - 1)) (T := fun _ => False) (Or.inl ⟨rfl, fun _ z => z⟩) v2.toNat
          rcases s with ⟨s1, _⟩ | ⟨_, s2, _⟩
          · omega
          · rcases s2 with s2 | s2
            · exact absurd s2 id
            · omega
        refine G_looks (Nat.le_trans (by decide) (Nat.le_refl 7)) wI wK wT (by omega) tw b0 (by omega) gs wr go (by omega) lt (fun y yI yf yr => B_found_92 (RF_of yI.1) ⟨b0, by omega⟩ (ih y (v2 + 1) (by omega) (by omega) (by omega) yI (fun a i m1 m2 m3 m4 m5 m6 => (yf a i m1 m2 m3 m4 m5 (fun t => m6 ⟨t.1, Or.inr t.2⟩)).trans (wf a i m1 m2 m3 m4 m5 m6)) ?_))
        rw [en]
        show RGS y ((key h).1 0) (agS (PfT (key h) (rd h 198)) (RfT (key h) (rd h 198)) ((v2.toNat : Nat) : Int) (foR (PfT (key h) (rd h 198)) (RfT (key h) (rd h 198)) (st0 (zshl 1 ((key h).1 1) - 1)) v2.toNat))
        rw [ex]
        exact yr
  -- the sums begin at nothing
  have init : ∀ (fuel : Nat) (w : LH) (v2 : Int), 100 - v2 ≤ fuel → 0 ≤ v2 → v2 ≤ 100 → INV w → (∀ a i, a ≠ 208 → rd w a i = rd z a i) → (∀ k, 0 ≤ k → k < v2 → rd w 208 k = 0) → Rn xs xl e mm_found 45 [some (.inr (.inr 182)), some (.inl v1), some (.inl v2)] [] w Q := by
    intro fuel
    have stop : ∀ (w : LH) (v2 : Int), 100 ≤ v2 → INV w → (∀ a i, a ≠ 208 → rd w a i = rd z a i) → (∀ k, 0 ≤ k → k < v2 → rd w 208 k = 0) → Rn xs xl e mm_found 66 [some (.inr (.inr 182)), some (.inl v1), some (.inl 0)] [] w Q := fun w v2 c wI wf wz => by
      refine sets (zshl 1 ((key h).1 1)).toNat w 0 (by omega) (by omega) (by omega) wI (fun a i m1 m2 m3 m4 m5 m6 => (wf a i m4).trans (zf a i m6)) ⟨⟨?_, ?_, ?_, ?_⟩, fun k k0 k1 => ?_⟩
      · rw [wf _ _ (by decide), z0]; rfl
      · rw [wf _ _ (by decide), z1]; rfl
      · rw [wf _ _ (by decide), z2]; rfl
      · rw [wf _ _ (by decide), z3]; rfl
      · rw [wz k k0 (by omega)]
        refine ⟨fun _ => ?_, fun _ => rfl⟩
        show 0 = st0 (zshl 1 ((key h).1 1) - 1) (k + 10)
        unfold st0
        rw [if_neg (by omega), if_neg (by omega)]
    induction fuel with
    | zero =>
      intro w v2 hm b0 b1 wI wf wz
      exact B_found_45 (RF_of wI.1) ⟨b0, b1⟩ ⟨fun c => stop w v2 c wI wf wz, fun c => by omega⟩
    | succ fuel ih =>
      intro w v2 hm b0 b1 wI wf wz
      refine B_found_45 (RF_of wI.1) ⟨b0, b1⟩ ⟨fun c => stop w v2 c wI wf wz, fun c => ⟨⟨b0, c⟩, ih _ (v2 + 1) (by omega) (by omega) (by omega) (wA_can wI ⟨b0, c⟩ (by omega) (by omega)) (fun a i n => (rdw_ne (fun z => n z.symm)).trans (wf a i n)) (fun k k0 k1 => ?_)⟩⟩
      by_cases t : k = v2
      · rw [t, rdw_eq]
      · rw [rdw_nei (fun z => t z.symm)]
        exact wz k k0 (by omega)
  exact init 100 z 0 (by omega) (by omega) (by omega) zI (fun _ _ _ => rfl) (fun k k0 k1 => by omega)
end F7
end
